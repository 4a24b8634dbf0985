section
-- ===== PART A: goes FIRST, ahead of the names: the tables' words, and 'selects' of the private methods out of them =====
/-- a private method of a class that the tables say can be made, by its rows of tables_1 -/
def lw_okq (q : MethodName × Nat) : Prop := (q.1.cls ≠ "java/lang/invoke/MethodHandle" ∧ q.1.cls ≠ "java/lang/invoke/VarHandle") ∧ Cond.instantiable q.1.cls q.2 ∈ tables_1 ∧ Cond.privateMethod q.1 ∈ tables_1 ∧ Cond.instanceMethod q.1 ∈ tables_1
theorem lw_p0 : lw_okq (⟨"ProofKernel", "declaredType", "(I)I"⟩, 4) := ⟨⟨by decide +kernel, by decide +kernel⟩, List.mem_of_getElem? (i := 11) (by decide +kernel), List.mem_of_getElem? (i := 178) (by decide +kernel), List.mem_of_getElem? (i := 179) (by decide +kernel)⟩
theorem lw_p1 : lw_okq (⟨"ProofKernel", "typeAt", "(I)I"⟩, 4) := ⟨⟨by decide +kernel, by decide +kernel⟩, List.mem_of_getElem? (i := 11) (by decide +kernel), List.mem_of_getElem? (i := 205) (by decide +kernel), List.mem_of_getElem? (i := 206) (by decide +kernel)⟩
theorem lw_p2 : lw_okq (⟨"ProofKernel", "draftApplication", "(II)V"⟩, 4) := ⟨⟨by decide +kernel, by decide +kernel⟩, List.mem_of_getElem? (i := 11) (by decide +kernel), List.mem_of_getElem? (i := 213) (by decide +kernel), List.mem_of_getElem? (i := 214) (by decide +kernel)⟩
theorem lw_p3 : lw_okq (⟨"ProofKernel", "isA", "(II)Z"⟩, 4) := ⟨⟨by decide +kernel, by decide +kernel⟩, List.mem_of_getElem? (i := 11) (by decide +kernel), List.mem_of_getElem? (i := 237) (by decide +kernel), List.mem_of_getElem? (i := 238) (by decide +kernel)⟩
theorem lw_p4 : lw_okq (⟨"ProofKernel$Draft", "beginWalk", "()V"⟩, 5) := ⟨⟨by decide +kernel, by decide +kernel⟩, List.mem_of_getElem? (i := 52) (by decide +kernel), List.mem_of_getElem? (i := 251) (by decide +kernel), List.mem_of_getElem? (i := 252) (by decide +kernel)⟩
theorem lw_p5 : lw_okq (⟨"ProofKernel$Draft", "walkOver", "(I)I"⟩, 5) := ⟨⟨by decide +kernel, by decide +kernel⟩, List.mem_of_getElem? (i := 52) (by decide +kernel), List.mem_of_getElem? (i := 255) (by decide +kernel), List.mem_of_getElem? (i := 256) (by decide +kernel)⟩
theorem lw_p6 : lw_okq (⟨"ProofKernel", "draftAbstraction", "(II)V"⟩, 4) := ⟨⟨by decide +kernel, by decide +kernel⟩, List.mem_of_getElem? (i := 11) (by decide +kernel), List.mem_of_getElem? (i := 263) (by decide +kernel), List.mem_of_getElem? (i := 264) (by decide +kernel)⟩
theorem lw_p7 : lw_okq (⟨"ProofKernel", "draftJoint", "(III)V"⟩, 4) := ⟨⟨by decide +kernel, by decide +kernel⟩, List.mem_of_getElem? (i := 11) (by decide +kernel), List.mem_of_getElem? (i := 279) (by decide +kernel), List.mem_of_getElem? (i := 280) (by decide +kernel)⟩
theorem lw_p8 : lw_okq (⟨"ProofKernel", "isThere", "(II)Z"⟩, 4) := ⟨⟨by decide +kernel, by decide +kernel⟩, List.mem_of_getElem? (i := 11) (by decide +kernel), List.mem_of_getElem? (i := 289) (by decide +kernel), List.mem_of_getElem? (i := 290) (by decide +kernel)⟩
theorem lw_p9 : lw_okq (⟨"ProofKernel", "isAsTheRuleSays", "(III)Z"⟩, 4) := ⟨⟨by decide +kernel, by decide +kernel⟩, List.mem_of_getElem? (i := 11) (by decide +kernel), List.mem_of_getElem? (i := 299) (by decide +kernel), List.mem_of_getElem? (i := 300) (by decide +kernel)⟩
theorem lw_p10 : lw_okq (⟨"ProofKernel", "startOf", "(II)I"⟩, 4) := ⟨⟨by decide +kernel, by decide +kernel⟩, List.mem_of_getElem? (i := 11) (by decide +kernel), List.mem_of_getElem? (i := 303) (by decide +kernel), List.mem_of_getElem? (i := 304) (by decide +kernel)⟩
theorem lw_p11 : lw_okq (⟨"ProofKernel", "bindsWhatIsAssumed", "(III)Z"⟩, 4) := ⟨⟨by decide +kernel, by decide +kernel⟩, List.mem_of_getElem? (i := 11) (by decide +kernel), List.mem_of_getElem? (i := 325) (by decide +kernel), List.mem_of_getElem? (i := 326) (by decide +kernel)⟩
theorem lw_p12 : lw_okq (⟨"ProofKernel", "derive", "(III)I"⟩, 4) := ⟨⟨by decide +kernel, by decide +kernel⟩, List.mem_of_getElem? (i := 11) (by decide +kernel), List.mem_of_getElem? (i := 344) (by decide +kernel), List.mem_of_getElem? (i := 345) (by decide +kernel)⟩
theorem lw_p13 : lw_okq (⟨"ProofKernel", "substitutedHypotheses", "(II)J"⟩, 4) := ⟨⟨by decide +kernel, by decide +kernel⟩, List.mem_of_getElem? (i := 11) (by decide +kernel), List.mem_of_getElem? (i := 348) (by decide +kernel), List.mem_of_getElem? (i := 349) (by decide +kernel)⟩
theorem lw_p14 : lw_okq (⟨"ProofKernel", "draftSubstituted", "(II)V"⟩, 4) := ⟨⟨by decide +kernel, by decide +kernel⟩, List.mem_of_getElem? (i := 11) (by decide +kernel), List.mem_of_getElem? (i := 352) (by decide +kernel), List.mem_of_getElem? (i := 353) (by decide +kernel)⟩
theorem lw_p15 : lw_okq (⟨"ProofKernel", "joinedHypotheses", "(III)J"⟩, 4) := ⟨⟨by decide +kernel, by decide +kernel⟩, List.mem_of_getElem? (i := 11) (by decide +kernel), List.mem_of_getElem? (i := 362) (by decide +kernel), List.mem_of_getElem? (i := 363) (by decide +kernel)⟩
def lw_privs_1 : List (MethodName × Nat) := [(⟨"ProofKernel", "declaredType", "(I)I"⟩, 4), (⟨"ProofKernel", "typeAt", "(I)I"⟩, 4), (⟨"ProofKernel", "draftApplication", "(II)V"⟩, 4), (⟨"ProofKernel", "isA", "(II)Z"⟩, 4), (⟨"ProofKernel$Draft", "beginWalk", "()V"⟩, 5), (⟨"ProofKernel$Draft", "walkOver", "(I)I"⟩, 5), (⟨"ProofKernel", "draftAbstraction", "(II)V"⟩, 4), (⟨"ProofKernel", "draftJoint", "(III)V"⟩, 4), (⟨"ProofKernel", "isThere", "(II)Z"⟩, 4), (⟨"ProofKernel", "isAsTheRuleSays", "(III)Z"⟩, 4), (⟨"ProofKernel", "startOf", "(II)I"⟩, 4), (⟨"ProofKernel", "bindsWhatIsAssumed", "(III)Z"⟩, 4), (⟨"ProofKernel", "derive", "(III)I"⟩, 4), (⟨"ProofKernel", "substitutedHypotheses", "(II)J"⟩, 4), (⟨"ProofKernel", "draftSubstituted", "(II)V"⟩, 4), (⟨"ProofKernel", "joinedHypotheses", "(III)J"⟩, 4)]
theorem lw_r1 : ∀ q ∈ lw_privs_1, lw_okq q := List.forall_mem_cons.mpr ⟨lw_p0, List.forall_mem_cons.mpr ⟨lw_p1, List.forall_mem_cons.mpr ⟨lw_p2, List.forall_mem_cons.mpr ⟨lw_p3, List.forall_mem_cons.mpr ⟨lw_p4, List.forall_mem_cons.mpr ⟨lw_p5, List.forall_mem_cons.mpr ⟨lw_p6, List.forall_mem_cons.mpr ⟨lw_p7, List.forall_mem_cons.mpr ⟨lw_p8, List.forall_mem_cons.mpr ⟨lw_p9, List.forall_mem_cons.mpr ⟨lw_p10, List.forall_mem_cons.mpr ⟨lw_p11, List.forall_mem_cons.mpr ⟨lw_p12, List.forall_mem_cons.mpr ⟨lw_p13, List.forall_mem_cons.mpr ⟨lw_p14, List.forall_mem_cons.mpr ⟨lw_p15, fun _ h => absurd h List.not_mem_nil⟩⟩⟩⟩⟩⟩⟩⟩⟩⟩⟩⟩⟩⟩⟩⟩
theorem lw_p16 : lw_okq (⟨"ProofKernel", "draftConclusion", "(III)V"⟩, 4) := ⟨⟨by decide +kernel, by decide +kernel⟩, List.mem_of_getElem? (i := 11) (by decide +kernel), List.mem_of_getElem? (i := 367) (by decide +kernel), List.mem_of_getElem? (i := 368) (by decide +kernel)⟩
theorem lw_p17 : lw_okq (⟨"ProofKernel$Book", "firstPremise", "(I)I"⟩, 7) := ⟨⟨by decide +kernel, by decide +kernel⟩, List.mem_of_getElem? (i := 74) (by decide +kernel), List.mem_of_getElem? (i := 447) (by decide +kernel), List.mem_of_getElem? (i := 448) (by decide +kernel)⟩
theorem lw_p18 : lw_okq (⟨"ProofKernel$Book", "secondPremise", "(I)I"⟩, 7) := ⟨⟨by decide +kernel, by decide +kernel⟩, List.mem_of_getElem? (i := 74) (by decide +kernel), List.mem_of_getElem? (i := 455) (by decide +kernel), List.mem_of_getElem? (i := 456) (by decide +kernel)⟩
theorem lw_p19 : lw_okq (⟨"ProofKernel$Book", "stepsBefore", "(I)I"⟩, 7) := ⟨⟨by decide +kernel, by decide +kernel⟩, List.mem_of_getElem? (i := 74) (by decide +kernel), List.mem_of_getElem? (i := 468) (by decide +kernel), List.mem_of_getElem? (i := 469) (by decide +kernel)⟩
theorem lw_p20 : lw_okq (⟨"ProofKernelModel", "isType", "(I)Z"⟩, 18) := ⟨⟨by decide +kernel, by decide +kernel⟩, List.mem_of_getElem? (i := 476) (by decide +kernel), List.mem_of_getElem? (i := 541) (by decide +kernel), List.mem_of_getElem? (i := 542) (by decide +kernel)⟩
theorem lw_p21 : lw_okq (⟨"ProofKernelModel", "find", "(II)I"⟩, 18) := ⟨⟨by decide +kernel, by decide +kernel⟩, List.mem_of_getElem? (i := 476) (by decide +kernel), List.mem_of_getElem? (i := 545) (by decide +kernel), List.mem_of_getElem? (i := 546) (by decide +kernel)⟩
theorem lw_p22 : lw_okq (⟨"ProofKernelModel", "put", "(I)V"⟩, 18) := ⟨⟨by decide +kernel, by decide +kernel⟩, List.mem_of_getElem? (i := 476) (by decide +kernel), List.mem_of_getElem? (i := 553) (by decide +kernel), List.mem_of_getElem? (i := 554) (by decide +kernel)⟩
theorem lw_p23 : lw_okq (⟨"ProofKernelModel", "keep", "()I"⟩, 18) := ⟨⟨by decide +kernel, by decide +kernel⟩, List.mem_of_getElem? (i := 476) (by decide +kernel), List.mem_of_getElem? (i := 557) (by decide +kernel), List.mem_of_getElem? (i := 558) (by decide +kernel)⟩
theorem lw_p24 : lw_okq (⟨"ProofKernelModel", "same", "(II)Z"⟩, 18) := ⟨⟨by decide +kernel, by decide +kernel⟩, List.mem_of_getElem? (i := 476) (by decide +kernel), List.mem_of_getElem? (i := 561) (by decide +kernel), List.mem_of_getElem? (i := 562) (by decide +kernel)⟩
theorem lw_p25 : lw_okq (⟨"ProofKernelModel", "end", "(I)I"⟩, 18) := ⟨⟨by decide +kernel, by decide +kernel⟩, List.mem_of_getElem? (i := 476) (by decide +kernel), List.mem_of_getElem? (i := 565) (by decide +kernel), List.mem_of_getElem? (i := 566) (by decide +kernel)⟩
theorem lw_p26 : lw_okq (⟨"ProofKernelModel", "typesAt", "(I)I"⟩, 18) := ⟨⟨by decide +kernel, by decide +kernel⟩, List.mem_of_getElem? (i := 476) (by decide +kernel), List.mem_of_getElem? (i := 572) (by decide +kernel), List.mem_of_getElem? (i := 573) (by decide +kernel)⟩
theorem lw_p27 : lw_okq (⟨"ProofKernelModel", "binder", "(I)I"⟩, 18) := ⟨⟨by decide +kernel, by decide +kernel⟩, List.mem_of_getElem? (i := 476) (by decide +kernel), List.mem_of_getElem? (i := 576) (by decide +kernel), List.mem_of_getElem? (i := 577) (by decide +kernel)⟩
theorem lw_p28 : lw_okq (⟨"ProofKernelModel", "isTerm", "(I)Z"⟩, 18) := ⟨⟨by decide +kernel, by decide +kernel⟩, List.mem_of_getElem? (i := 476) (by decide +kernel), List.mem_of_getElem? (i := 588) (by decide +kernel), List.mem_of_getElem? (i := 589) (by decide +kernel)⟩
theorem lw_p29 : lw_okq (⟨"ProofKernelModel", "fits", "(II)Z"⟩, 18) := ⟨⟨by decide +kernel, by decide +kernel⟩, List.mem_of_getElem? (i := 476) (by decide +kernel), List.mem_of_getElem? (i := 592) (by decide +kernel), List.mem_of_getElem? (i := 593) (by decide +kernel)⟩
theorem lw_p30 : lw_okq (⟨"ProofKernelModel", "copy", "(I)V"⟩, 18) := ⟨⟨by decide +kernel, by decide +kernel⟩, List.mem_of_getElem? (i := 476) (by decide +kernel), List.mem_of_getElem? (i := 596) (by decide +kernel), List.mem_of_getElem? (i := 597) (by decide +kernel)⟩
theorem lw_p31 : lw_okq (⟨"ProofKernelModel", "isVariableTerm", "(I)Z"⟩, 18) := ⟨⟨by decide +kernel, by decide +kernel⟩, List.mem_of_getElem? (i := 476) (by decide +kernel), List.mem_of_getElem? (i := 604) (by decide +kernel), List.mem_of_getElem? (i := 605) (by decide +kernel)⟩
def lw_privs_2 : List (MethodName × Nat) := [(⟨"ProofKernel", "draftConclusion", "(III)V"⟩, 4), (⟨"ProofKernel$Book", "firstPremise", "(I)I"⟩, 7), (⟨"ProofKernel$Book", "secondPremise", "(I)I"⟩, 7), (⟨"ProofKernel$Book", "stepsBefore", "(I)I"⟩, 7), (⟨"ProofKernelModel", "isType", "(I)Z"⟩, 18), (⟨"ProofKernelModel", "find", "(II)I"⟩, 18), (⟨"ProofKernelModel", "put", "(I)V"⟩, 18), (⟨"ProofKernelModel", "keep", "()I"⟩, 18), (⟨"ProofKernelModel", "same", "(II)Z"⟩, 18), (⟨"ProofKernelModel", "end", "(I)I"⟩, 18), (⟨"ProofKernelModel", "typesAt", "(I)I"⟩, 18), (⟨"ProofKernelModel", "binder", "(I)I"⟩, 18), (⟨"ProofKernelModel", "isTerm", "(I)Z"⟩, 18), (⟨"ProofKernelModel", "fits", "(II)Z"⟩, 18), (⟨"ProofKernelModel", "copy", "(I)V"⟩, 18), (⟨"ProofKernelModel", "isVariableTerm", "(I)Z"⟩, 18)]
theorem lw_r2 : ∀ q ∈ lw_privs_2, lw_okq q := List.forall_mem_cons.mpr ⟨lw_p16, List.forall_mem_cons.mpr ⟨lw_p17, List.forall_mem_cons.mpr ⟨lw_p18, List.forall_mem_cons.mpr ⟨lw_p19, List.forall_mem_cons.mpr ⟨lw_p20, List.forall_mem_cons.mpr ⟨lw_p21, List.forall_mem_cons.mpr ⟨lw_p22, List.forall_mem_cons.mpr ⟨lw_p23, List.forall_mem_cons.mpr ⟨lw_p24, List.forall_mem_cons.mpr ⟨lw_p25, List.forall_mem_cons.mpr ⟨lw_p26, List.forall_mem_cons.mpr ⟨lw_p27, List.forall_mem_cons.mpr ⟨lw_p28, List.forall_mem_cons.mpr ⟨lw_p29, List.forall_mem_cons.mpr ⟨lw_p30, List.forall_mem_cons.mpr ⟨lw_p31, fun _ h => absurd h List.not_mem_nil⟩⟩⟩⟩⟩⟩⟩⟩⟩⟩⟩⟩⟩⟩⟩⟩
theorem lw_p32 : lw_okq (⟨"ProofKernelModel", "copyWith", "(III)V"⟩, 18) := ⟨⟨by decide +kernel, by decide +kernel⟩, List.mem_of_getElem? (i := 476) (by decide +kernel), List.mem_of_getElem? (i := 612) (by decide +kernel), List.mem_of_getElem? (i := 613) (by decide +kernel)⟩
theorem lw_p33 : lw_okq (⟨"ProofKernelModel", "depth", "(II)I"⟩, 18) := ⟨⟨by decide +kernel, by decide +kernel⟩, List.mem_of_getElem? (i := 476) (by decide +kernel), List.mem_of_getElem? (i := 616) (by decide +kernel), List.mem_of_getElem? (i := 617) (by decide +kernel)⟩
theorem lw_p34 : lw_okq (⟨"ProofKernelModel", "there", "(III)Z"⟩, 18) := ⟨⟨by decide +kernel, by decide +kernel⟩, List.mem_of_getElem? (i := 476) (by decide +kernel), List.mem_of_getElem? (i := 628) (by decide +kernel), List.mem_of_getElem? (i := 629) (by decide +kernel)⟩
theorem lw_p35 : lw_okq (⟨"ProofKernelModel", "isTheorem", "(I)Z"⟩, 18) := ⟨⟨by decide +kernel, by decide +kernel⟩, List.mem_of_getElem? (i := 476) (by decide +kernel), List.mem_of_getElem? (i := 635) (by decide +kernel), List.mem_of_getElem? (i := 636) (by decide +kernel)⟩
theorem lw_p36 : lw_okq (⟨"ProofKernelModel", "substitute", "(III)I"⟩, 18) := ⟨⟨by decide +kernel, by decide +kernel⟩, List.mem_of_getElem? (i := 476) (by decide +kernel), List.mem_of_getElem? (i := 639) (by decide +kernel), List.mem_of_getElem? (i := 640) (by decide +kernel)⟩
theorem lw_p37 : lw_okq (⟨"ProofKernelModel", "reason", "(III)I"⟩, 18) := ⟨⟨by decide +kernel, by decide +kernel⟩, List.mem_of_getElem? (i := 476) (by decide +kernel), List.mem_of_getElem? (i := 643) (by decide +kernel), List.mem_of_getElem? (i := 644) (by decide +kernel)⟩
theorem lw_p38 : lw_okq (⟨"ProofKernelModel", "freeInSet", "(I)Z"⟩, 18) := ⟨⟨by decide +kernel, by decide +kernel⟩, List.mem_of_getElem? (i := 476) (by decide +kernel), List.mem_of_getElem? (i := 648) (by decide +kernel), List.mem_of_getElem? (i := 649) (by decide +kernel)⟩
theorem lw_p39 : lw_okq (⟨"ProofKernelModel", "isIn", "(II)Z"⟩, 18) := ⟨⟨by decide +kernel, by decide +kernel⟩, List.mem_of_getElem? (i := 476) (by decide +kernel), List.mem_of_getElem? (i := 652) (by decide +kernel), List.mem_of_getElem? (i := 653) (by decide +kernel)⟩
theorem lw_p40 : lw_okq (⟨"ProofKernelModel", "copyOpened", "(II)V"⟩, 18) := ⟨⟨by decide +kernel, by decide +kernel⟩, List.mem_of_getElem? (i := 476) (by decide +kernel), List.mem_of_getElem? (i := 656) (by decide +kernel), List.mem_of_getElem? (i := 657) (by decide +kernel)⟩
theorem lw_p41 : lw_okq (⟨"ProofKernelModel", "equate", "(III)I"⟩, 18) := ⟨⟨by decide +kernel, by decide +kernel⟩, List.mem_of_getElem? (i := 476) (by decide +kernel), List.mem_of_getElem? (i := 660) (by decide +kernel), List.mem_of_getElem? (i := 661) (by decide +kernel)⟩
theorem lw_p42 : lw_okq (⟨"ProofKernelModel", "abstraction", "(III)I"⟩, 18) := ⟨⟨by decide +kernel, by decide +kernel⟩, List.mem_of_getElem? (i := 476) (by decide +kernel), List.mem_of_getElem? (i := 664) (by decide +kernel), List.mem_of_getElem? (i := 665) (by decide +kernel)⟩
theorem lw_p43 : lw_okq (⟨"ProofKernelModel", "two", "(IIII)I"⟩, 18) := ⟨⟨by decide +kernel, by decide +kernel⟩, List.mem_of_getElem? (i := 476) (by decide +kernel), List.mem_of_getElem? (i := 668) (by decide +kernel), List.mem_of_getElem? (i := 669) (by decide +kernel)⟩
theorem lw_p44 : lw_okq (⟨"ProofKernelModel", "say", "(I)V"⟩, 18) := ⟨⟨by decide +kernel, by decide +kernel⟩, List.mem_of_getElem? (i := 476) (by decide +kernel), List.mem_of_getElem? (i := 697) (by decide +kernel), List.mem_of_getElem? (i := 698) (by decide +kernel)⟩
def lw_privs_3 : List (MethodName × Nat) := [(⟨"ProofKernelModel", "copyWith", "(III)V"⟩, 18), (⟨"ProofKernelModel", "depth", "(II)I"⟩, 18), (⟨"ProofKernelModel", "there", "(III)Z"⟩, 18), (⟨"ProofKernelModel", "isTheorem", "(I)Z"⟩, 18), (⟨"ProofKernelModel", "substitute", "(III)I"⟩, 18), (⟨"ProofKernelModel", "reason", "(III)I"⟩, 18), (⟨"ProofKernelModel", "freeInSet", "(I)Z"⟩, 18), (⟨"ProofKernelModel", "isIn", "(II)Z"⟩, 18), (⟨"ProofKernelModel", "copyOpened", "(II)V"⟩, 18), (⟨"ProofKernelModel", "equate", "(III)I"⟩, 18), (⟨"ProofKernelModel", "abstraction", "(III)I"⟩, 18), (⟨"ProofKernelModel", "two", "(IIII)I"⟩, 18), (⟨"ProofKernelModel", "say", "(I)V"⟩, 18)]
theorem lw_r3 : ∀ q ∈ lw_privs_3, lw_okq q := List.forall_mem_cons.mpr ⟨lw_p32, List.forall_mem_cons.mpr ⟨lw_p33, List.forall_mem_cons.mpr ⟨lw_p34, List.forall_mem_cons.mpr ⟨lw_p35, List.forall_mem_cons.mpr ⟨lw_p36, List.forall_mem_cons.mpr ⟨lw_p37, List.forall_mem_cons.mpr ⟨lw_p38, List.forall_mem_cons.mpr ⟨lw_p39, List.forall_mem_cons.mpr ⟨lw_p40, List.forall_mem_cons.mpr ⟨lw_p41, List.forall_mem_cons.mpr ⟨lw_p42, List.forall_mem_cons.mpr ⟨lw_p43, List.forall_mem_cons.mpr ⟨lw_p44, fun _ h => absurd h List.not_mem_nil⟩⟩⟩⟩⟩⟩⟩⟩⟩⟩⟩⟩⟩
def lw_privs : List (MethodName × Nat) := lw_privs_1 ++ (lw_privs_2 ++ (lw_privs_3))
def lw_tbl : List Cond := k2_sels lw_privs ++ tables_1
theorem lw_privs_ok : ∀ q ∈ lw_privs, lw_okq q := by
  show ∀ q ∈ lw_privs_1 ++ (lw_privs_2 ++ (lw_privs_3)), lw_okq q
  exact List.forall_mem_append.mpr ⟨lw_r1, List.forall_mem_append.mpr ⟨lw_r2, lw_r3⟩⟩
-- ===== end of PART A; then your names; then what follows =====
end
section
/-! Names of the system: written by wip/whole/gen_names.py out of the listing and the tables. -/
def pTB : List Cond := lw_tbl.filter goodWord
theorem pT {w : Cond} (k : Nat) (h : lw_tbl[k]? = some w) (g : goodWord w = true) : w ∈ pTB := List.mem_filter.mpr ⟨List.mem_of_getElem? h, g⟩
theorem pTs {ws : List Cond} (ps : List Nat) (h : ws = ps.filterMap (fun i => lw_tbl[i]?)) (g : ws.all goodWord = true) : ∀ w ∈ ws, w ∈ pTB := fun w hw => List.mem_filter.mpr ⟨by rw [h] at hw; obtain ⟨i, -, hi⟩ := List.mem_filterMap.mp hw; exact List.mem_of_getElem? hi, List.all_eq_true.mp g w hw⟩
theorem pTBg {w : Cond} (h : w ∈ pTB) : (w.onTables && w.keeps) = true ∨ ∃ ty, w = .arrayClass ty := good_of_word (List.mem_filter.mp h).2
abbrev pMD : Type := MethodName × ByteArray × Nat × Option FieldType × Room
def R_K : String := "ProofKernel"
def F_K : u_T := fun k => match k with
  | 0 => ("ProofKernel", "types", "LProofKernel$Types;", true)
  | 1 => ("ProofKernel", "shelf", "LProofKernel$Shelf;", true)
  | 2 => ("ProofKernel", "draft", "LProofKernel$Draft;", true)
  | _ => ("ProofKernel", "book", "LProofKernel$Book;", true)
def ft_K : Nat → FieldType := fun k => match k with
  | 0 => .object "ProofKernel$Types"
  | 1 => .object "ProofKernel$Shelf"
  | 2 => .object "ProofKernel$Draft"
  | _ => .object "ProofKernel$Book"
theorem in_K : ∀ w ∈ u_ws R_K F_K 4, w ∈ pTB := pTs [151, 153, 155, 157] (by decide +kernel) (by decide +kernel)
theorem n_K : ∀ a, a < 4 → ∀ b, b < 4 → a ≠ b → (F_K a).2.1 ≠ (F_K b).2.1 := by decide +kernel
theorem ft_K_ok : ∀ k, k < 4 → parseFieldDescriptor (F_K k).2.2.1 = some (ft_K k) := by decide +kernel
theorem ini_K : Cond.initialized R_K ∈ pTB := pT 46 (by decide +kernel) rfl
theorem ins_K : Cond.instantiable R_K 4 ∈ pTB := pT 56 (by decide +kernel) rfl
def R_T : String := "ProofKernel$Types"
def F_T : u_T := fun k => match k with
  | 0 => ("ProofKernel$Types", "from", "[I", true)
  | 1 => ("ProofKernel$Types", "to", "[I", true)
  | _ => ("ProofKernel$Types", "count", "I", false)
def ft_T : Nat → FieldType := fun k => match k with
  | 0 => .array .int
  | 1 => .array .int
  | _ => .int
theorem in_T : ∀ w ∈ u_ws R_T F_T 3, w ∈ pTB := pTs [72, 74, 76] (by decide +kernel) (by decide +kernel)
theorem n_T : ∀ a, a < 3 → ∀ b, b < 3 → a ≠ b → (F_T a).2.1 ≠ (F_T b).2.1 := by decide +kernel
theorem ft_T_ok : ∀ k, k < 3 → parseFieldDescriptor (F_T k).2.2.1 = some (ft_T k) := by decide +kernel
theorem ini_T : Cond.initialized R_T ∈ pTB := pT 47 (by decide +kernel) rfl
theorem ins_T : Cond.instantiable R_T 3 ∈ pTB := pT 64 (by decide +kernel) rfl
def R_S : String := "ProofKernel$Shelf"
def F_S : u_T := fun k => match k with
  | 0 => ("ProofKernel$Shelf", "tokens", "[I", true)
  | 1 => ("ProofKernel$Shelf", "lengths", "[I", true)
  | _ => ("ProofKernel$Shelf", "count", "I", false)
def ft_S : Nat → FieldType := fun k => match k with
  | 0 => .array .int
  | 1 => .array .int
  | _ => .int
theorem in_S : ∀ w ∈ u_ws R_S F_S 3, w ∈ pTB := pTs [89, 91, 93] (by decide +kernel) (by decide +kernel)
theorem n_S : ∀ a, a < 3 → ∀ b, b < 3 → a ≠ b → (F_S a).2.1 ≠ (F_S b).2.1 := by decide +kernel
theorem ft_S_ok : ∀ k, k < 3 → parseFieldDescriptor (F_S k).2.2.1 = some (ft_S k) := by decide +kernel
theorem ini_S : Cond.initialized R_S ∈ pTB := pT 48 (by decide +kernel) rfl
theorem ins_S : Cond.instantiable R_S 3 ∈ pTB := pT 81 (by decide +kernel) rfl
def R_D : String := "ProofKernel$Draft"
def F_D : u_T := fun k => match k with
  | 0 => ("ProofKernel$Draft", "shelf", "LProofKernel$Shelf;", true)
  | 1 => ("ProofKernel$Draft", "row", "[I", true)
  | 2 => ("ProofKernel$Draft", "length", "I", false)
  | 3 => ("ProofKernel$Draft", "depths", "[I", true)
  | _ => ("ProofKernel$Draft", "waiting", "I", false)
def ft_D : Nat → FieldType := fun k => match k with
  | 0 => .object "ProofKernel$Shelf"
  | 1 => .array .int
  | 2 => .int
  | 3 => .array .int
  | _ => .int
theorem in_D : ∀ w ∈ u_ws R_D F_D 5, w ∈ pTB := pTs [107, 109, 111, 113, 115] (by decide +kernel) (by decide +kernel)
theorem n_D : ∀ a, a < 5 → ∀ b, b < 5 → a ≠ b → (F_D a).2.1 ≠ (F_D b).2.1 := by decide +kernel
theorem ft_D_ok : ∀ k, k < 5 → parseFieldDescriptor (F_D k).2.2.1 = some (ft_D k) := by decide +kernel
theorem ini_D : Cond.initialized R_D ∈ pTB := pT 49 (by decide +kernel) rfl
theorem ins_D : Cond.instantiable R_D 5 ∈ pTB := pT 97 (by decide +kernel) rfl
def R_B : String := "ProofKernel$Book"
def F_B : u_T := fun k => match k with
  | 0 => ("ProofKernel$Book", "assumed", "[J", true)
  | 1 => ("ProofKernel$Book", "conclusions", "[I", true)
  | 2 => ("ProofKernel$Book", "rules", "[I", true)
  | 3 => ("ProofKernel$Book", "namedByX", "[I", true)
  | 4 => ("ProofKernel$Book", "namedByY", "[I", true)
  | 5 => ("ProofKernel$Book", "count", "I", false)
  | _ => ("ProofKernel$Book", "stepsUpTo", "[I", true)
def ft_B : Nat → FieldType := fun k => match k with
  | 0 => .array .long
  | 1 => .array .int
  | 2 => .array .int
  | 3 => .array .int
  | 4 => .array .int
  | 5 => .int
  | _ => .array .int
theorem in_B : ∀ w ∈ u_ws R_B F_B 7, w ∈ pTB := pTs [131, 133, 135, 137, 139, 141, 143] (by decide +kernel) (by decide +kernel)
theorem n_B : ∀ a, a < 7 → ∀ b, b < 7 → a ≠ b → (F_B a).2.1 ≠ (F_B b).2.1 := by decide +kernel
theorem ft_B_ok : ∀ k, k < 7 → parseFieldDescriptor (F_B k).2.2.1 = some (ft_B k) := by decide +kernel
theorem ini_B : Cond.initialized R_B ∈ pTB := pT 50 (by decide +kernel) rfl
theorem ins_B : Cond.instantiable R_B 7 ∈ pTB := pT 119 (by decide +kernel) rfl
def R_M : String := "ProofKernelModel"
def F_M : u_T := fun k => match k with
  | 0 => ("ProofKernelModel", "row", "[I", false)
  | 1 => ("ProofKernelModel", "made", "I", false)
  | 2 => ("ProofKernelModel", "terms", "I", false)
  | 3 => ("ProofKernelModel", "length", "[I", false)
  | 4 => ("ProofKernelModel", "sort", "[I", false)
  | 5 => ("ProofKernelModel", "kind", "[I", false)
  | 6 => ("ProofKernelModel", "types", "I", false)
  | 7 => ("ProofKernelModel", "from", "[I", false)
  | 8 => ("ProofKernelModel", "to", "[I", false)
  | 9 => ("ProofKernelModel", "declared", "[I", false)
  | 10 => ("ProofKernelModel", "theorems", "I", false)
  | 11 => ("ProofKernelModel", "hypotheses", "[J", false)
  | 12 => ("ProofKernelModel", "conclusion", "[I", false)
  | 13 => ("ProofKernelModel", "axioms", "[J", false)
  | 14 => ("ProofKernelModel", "steps", "[I", false)
  | 15 => ("ProofKernelModel", "set", "J", false)
  | 16 => ("ProofKernelModel", "text", "[I", false)
  | _ => ("ProofKernelModel", "size", "I", false)
def ft_M : Nat → FieldType := fun k => match k with
  | 0 => .array .int
  | 1 => .int
  | 2 => .int
  | 3 => .array .int
  | 4 => .array .int
  | 5 => .array .int
  | 6 => .int
  | 7 => .array .int
  | 8 => .array .int
  | 9 => .array .int
  | 10 => .int
  | 11 => .array .long
  | 12 => .array .int
  | 13 => .array .long
  | 14 => .array .int
  | 15 => .long
  | 16 => .array .int
  | _ => .int
theorem in_M : ∀ w ∈ u_ws R_M F_M 18, w ∈ pTB := pTs [544, 546, 548, 550, 552, 554, 556, 558, 560, 562, 564, 566, 568, 570, 572, 574, 576, 578] (by decide +kernel) (by decide +kernel)
theorem n_M : ∀ a, a < 18 → ∀ b, b < 18 → a ≠ b → (F_M a).2.1 ≠ (F_M b).2.1 := by decide +kernel
theorem ft_M_ok : ∀ k, k < 18 → parseFieldDescriptor (F_M k).2.2.1 = some (ft_M k) := by decide +kernel
theorem ini_M : Cond.initialized R_M ∈ pTB := pT 51 (by decide +kernel) rfl
theorem ins_M : Cond.instantiable R_M 18 ∈ pTB := pT 521 (by decide +kernel) rfl
def R_O : String := "ProofKernel$Token"
def R_L : String := "ProofKernelLaw"
theorem ini_O : Cond.initialized R_O ∈ pTB := pT 52 (by decide +kernel) rfl
abbrev pCl : List vw_C := [(R_K, F_K, 4), (R_T, F_T, 3), (R_S, F_S, 3), (R_D, F_D, 5), (R_B, F_B, 7), (R_M, F_M, 18)]
theorem pw_aI : Cond.arrayClass .int ∈ pTB := pT 79 (by decide +kernel) rfl
theorem pw_aJ : Cond.arrayClass .long ∈ pTB := pT 146 (by decide +kernel) rfl
theorem pw_oi1 : Cond.instanceMethod objectInit ∈ pTB := pT 61 (by decide +kernel) rfl
theorem pw_oi2 : Cond.code objectInit ⟨#[0xb1]⟩ 1 none ∈ pTB := pT 62 (by decide +kernel) rfl
abbrev b_K_init : ByteArray := prog_1_method_1_code
def y_K_init : MethodName := ⟨R_K, "<init>", "()V"⟩
abbrev m_K_init : pMD := (y_K_init, b_K_init, 1, none, { frames := 2, cells := 16, slots := 2210, locals := 80 })
theorem wc_K_init : Cond.code y_K_init b_K_init 1 none ∈ pTB := pT 59 (by decide +kernel) rfl
theorem wi_K_init : Cond.instanceMethod y_K_init ∈ pTB := pT 58 (by decide +kernel) rfl
abbrev b_K_arrow : ByteArray := prog_1_method_2_code
def y_K_arrow : MethodName := ⟨R_K, "arrow", "(II)I"⟩
abbrev m_K_arrow : pMD := (y_K_arrow, b_K_arrow, 3, (some .int), { frames := 2, cells := 0, slots := 0, locals := 80 })
theorem wc_K_arrow : Cond.code y_K_arrow b_K_arrow 3 (some .int) ∈ pTB := pT 163 (by decide +kernel) rfl
theorem wi_K_arrow : Cond.instanceMethod y_K_arrow ∈ pTB := pT 161 (by decide +kernel) rfl
theorem wl_K_arrow : Cond.selects R_K y_K_arrow y_K_arrow ∈ pTB := pT 162 (by decide +kernel) rfl
abbrev b_K_variable : ByteArray := prog_1_method_3_code
def y_K_variable : MethodName := ⟨R_K, "variable", "(II)I"⟩
abbrev m_K_variable : pMD := (y_K_variable, b_K_variable, 3, (some .int), { frames := 4, cells := 0, slots := 0, locals := 160 })
theorem wc_K_variable : Cond.code y_K_variable b_K_variable 3 (some .int) ∈ pTB := pT 175 (by decide +kernel) rfl
theorem wi_K_variable : Cond.instanceMethod y_K_variable ∈ pTB := pT 173 (by decide +kernel) rfl
theorem wl_K_variable : Cond.selects R_K y_K_variable y_K_variable ∈ pTB := pT 174 (by decide +kernel) rfl
abbrev b_K_constant : ByteArray := prog_1_method_4_code
def y_K_constant : MethodName := ⟨R_K, "constant", "(II)I"⟩
abbrev m_K_constant : pMD := (y_K_constant, b_K_constant, 4, (some .int), { frames := 4, cells := 0, slots := 0, locals := 160 })
theorem wc_K_constant : Cond.code y_K_constant b_K_constant 4 (some .int) ∈ pTB := pT 221 (by decide +kernel) rfl
theorem wi_K_constant : Cond.instanceMethod y_K_constant ∈ pTB := pT 219 (by decide +kernel) rfl
theorem wl_K_constant : Cond.selects R_K y_K_constant y_K_constant ∈ pTB := pT 220 (by decide +kernel) rfl
abbrev b_K_apply : ByteArray := prog_1_method_5_code
def y_K_apply : MethodName := ⟨R_K, "apply", "(II)I"⟩
abbrev m_K_apply : pMD := (y_K_apply, b_K_apply, 3, (some .int), { frames := 5, cells := 0, slots := 0, locals := 200 })
theorem wc_K_apply : Cond.code y_K_apply b_K_apply 3 (some .int) ∈ pTB := pT 244 (by decide +kernel) rfl
theorem wi_K_apply : Cond.instanceMethod y_K_apply ∈ pTB := pT 242 (by decide +kernel) rfl
theorem wl_K_apply : Cond.selects R_K y_K_apply y_K_apply ∈ pTB := pT 243 (by decide +kernel) rfl
abbrev b_K_bind : ByteArray := prog_1_method_6_code
def y_K_bind : MethodName := ⟨R_K, "bind", "(ZII)I"⟩
abbrev m_K_bind : pMD := (y_K_bind, b_K_bind, 8, (some .int), { frames := 5, cells := 0, slots := 0, locals := 200 })
theorem wc_K_bind : Cond.code y_K_bind b_K_bind 8 (some .int) ∈ pTB := pT 280 (by decide +kernel) rfl
theorem wi_K_bind : Cond.instanceMethod y_K_bind ∈ pTB := pT 278 (by decide +kernel) rfl
theorem wl_K_bind : Cond.selects R_K y_K_bind y_K_bind ∈ pTB := pT 279 (by decide +kernel) rfl
abbrev b_K_join : ByteArray := prog_1_method_7_code
def y_K_join : MethodName := ⟨R_K, "join", "(ZII)I"⟩
abbrev m_K_join : pMD := (y_K_join, b_K_join, 6, (some .int), { frames := 5, cells := 0, slots := 0, locals := 200 })
theorem wc_K_join : Cond.code y_K_join b_K_join 6 (some .int) ∈ pTB := pT 322 (by decide +kernel) rfl
theorem wi_K_join : Cond.instanceMethod y_K_join ∈ pTB := pT 320 (by decide +kernel) rfl
theorem wl_K_join : Cond.selects R_K y_K_join y_K_join ∈ pTB := pT 321 (by decide +kernel) rfl
abbrev b_K_rule : ByteArray := prog_1_method_8_code
def y_K_rule : MethodName := ⟨R_K, "rule", "(III)I"⟩
abbrev m_K_rule : pMD := (y_K_rule, b_K_rule, 4, (some .int), { frames := 8, cells := 0, slots := 0, locals := 320 })
theorem wc_K_rule : Cond.code y_K_rule b_K_rule 4 (some .int) ∈ pTB := pT 330 (by decide +kernel) rfl
theorem wi_K_rule : Cond.instanceMethod y_K_rule ∈ pTB := pT 328 (by decide +kernel) rfl
theorem wl_K_rule : Cond.selects R_K y_K_rule y_K_rule ∈ pTB := pT 329 (by decide +kernel) rfl
abbrev b_K_terms : ByteArray := prog_1_method_9_code
def y_K_terms : MethodName := ⟨R_K, "terms", "()I"⟩
abbrev m_K_terms : pMD := (y_K_terms, b_K_terms, 1, (some .int), { frames := 2, cells := 0, slots := 0, locals := 80 })
theorem wc_K_terms : Cond.code y_K_terms b_K_terms 1 (some .int) ∈ pTB := pT 432 (by decide +kernel) rfl
theorem wi_K_terms : Cond.instanceMethod y_K_terms ∈ pTB := pT 430 (by decide +kernel) rfl
theorem wl_K_terms : Cond.selects R_K y_K_terms y_K_terms ∈ pTB := pT 431 (by decide +kernel) rfl
abbrev b_K_theorems : ByteArray := prog_1_method_10_code
def y_K_theorems : MethodName := ⟨R_K, "theorems", "()I"⟩
abbrev m_K_theorems : pMD := (y_K_theorems, b_K_theorems, 1, (some .int), { frames := 2, cells := 0, slots := 0, locals := 80 })
theorem wc_K_theorems : Cond.code y_K_theorems b_K_theorems 1 (some .int) ∈ pTB := pT 436 (by decide +kernel) rfl
theorem wi_K_theorems : Cond.instanceMethod y_K_theorems ∈ pTB := pT 434 (by decide +kernel) rfl
theorem wl_K_theorems : Cond.selects R_K y_K_theorems y_K_theorems ∈ pTB := pT 435 (by decide +kernel) rfl
abbrev b_K_typeOf : ByteArray := prog_1_method_11_code
def y_K_typeOf : MethodName := ⟨R_K, "typeOf", "(I)I"⟩
abbrev m_K_typeOf : pMD := (y_K_typeOf, b_K_typeOf, 2, (some .int), { frames := 3, cells := 0, slots := 0, locals := 120 })
theorem wc_K_typeOf : Cond.code y_K_typeOf b_K_typeOf 2 (some .int) ∈ pTB := pT 444 (by decide +kernel) rfl
theorem wi_K_typeOf : Cond.instanceMethod y_K_typeOf ∈ pTB := pT 442 (by decide +kernel) rfl
theorem wl_K_typeOf : Cond.selects R_K y_K_typeOf y_K_typeOf ∈ pTB := pT 443 (by decide +kernel) rfl
abbrev b_K_size : ByteArray := prog_1_method_12_code
def y_K_size : MethodName := ⟨R_K, "size", "(I)I"⟩
abbrev m_K_size : pMD := (y_K_size, b_K_size, 2, (some .int), { frames := 2, cells := 0, slots := 0, locals := 80 })
theorem wc_K_size : Cond.code y_K_size b_K_size 2 (some .int) ∈ pTB := pT 448 (by decide +kernel) rfl
theorem wi_K_size : Cond.instanceMethod y_K_size ∈ pTB := pT 446 (by decide +kernel) rfl
theorem wl_K_size : Cond.selects R_K y_K_size y_K_size ∈ pTB := pT 447 (by decide +kernel) rfl
abbrev b_K_free : ByteArray := prog_1_method_13_code
def y_K_free : MethodName := ⟨R_K, "free", "(II)Z"⟩
abbrev m_K_free : pMD := (y_K_free, b_K_free, 3, (some .boolean), { frames := 3, cells := 0, slots := 0, locals := 120 })
theorem wc_K_free : Cond.code y_K_free b_K_free 3 (some .boolean) ∈ pTB := pT 456 (by decide +kernel) rfl
theorem wi_K_free : Cond.instanceMethod y_K_free ∈ pTB := pT 454 (by decide +kernel) rfl
theorem wl_K_free : Cond.selects R_K y_K_free y_K_free ∈ pTB := pT 455 (by decide +kernel) rfl
abbrev b_K_printed : ByteArray := prog_1_method_14_code
def y_K_printed : MethodName := ⟨R_K, "printed", "(II)I"⟩
abbrev m_K_printed : pMD := (y_K_printed, b_K_printed, 7, (some .int), { frames := 3, cells := 0, slots := 0, locals := 120 })
theorem wc_K_printed : Cond.code y_K_printed b_K_printed 7 (some .int) ∈ pTB := pT 460 (by decide +kernel) rfl
theorem wi_K_printed : Cond.instanceMethod y_K_printed ∈ pTB := pT 458 (by decide +kernel) rfl
theorem wl_K_printed : Cond.selects R_K y_K_printed y_K_printed ∈ pTB := pT 459 (by decide +kernel) rfl
abbrev b_K_conclusion : ByteArray := prog_1_method_15_code
def y_K_conclusion : MethodName := ⟨R_K, "conclusion", "(I)I"⟩
abbrev m_K_conclusion : pMD := (y_K_conclusion, b_K_conclusion, 2, (some .int), { frames := 2, cells := 0, slots := 0, locals := 80 })
theorem wc_K_conclusion : Cond.code y_K_conclusion b_K_conclusion 2 (some .int) ∈ pTB := pT 477 (by decide +kernel) rfl
theorem wi_K_conclusion : Cond.instanceMethod y_K_conclusion ∈ pTB := pT 475 (by decide +kernel) rfl
theorem wl_K_conclusion : Cond.selects R_K y_K_conclusion y_K_conclusion ∈ pTB := pT 476 (by decide +kernel) rfl
abbrev b_K_hypotheses : ByteArray := prog_1_method_16_code
def y_K_hypotheses : MethodName := ⟨R_K, "hypotheses", "(I)J"⟩
abbrev m_K_hypotheses : pMD := (y_K_hypotheses, b_K_hypotheses, 2, (some .long), { frames := 2, cells := 0, slots := 0, locals := 80 })
theorem wc_K_hypotheses : Cond.code y_K_hypotheses b_K_hypotheses 2 (some .long) ∈ pTB := pT 481 (by decide +kernel) rfl
theorem wi_K_hypotheses : Cond.instanceMethod y_K_hypotheses ∈ pTB := pT 479 (by decide +kernel) rfl
theorem wl_K_hypotheses : Cond.selects R_K y_K_hypotheses y_K_hypotheses ∈ pTB := pT 480 (by decide +kernel) rfl
abbrev b_K_axioms : ByteArray := prog_1_method_17_code
def y_K_axioms : MethodName := ⟨R_K, "axioms", "(I)J"⟩
abbrev m_K_axioms : pMD := (y_K_axioms, b_K_axioms, 2, (some .long), { frames := 3, cells := 0, slots := 0, locals := 120 })
theorem wc_K_axioms : Cond.code y_K_axioms b_K_axioms 2 (some .long) ∈ pTB := pT 485 (by decide +kernel) rfl
theorem wi_K_axioms : Cond.instanceMethod y_K_axioms ∈ pTB := pT 483 (by decide +kernel) rfl
theorem wl_K_axioms : Cond.selects R_K y_K_axioms y_K_axioms ∈ pTB := pT 484 (by decide +kernel) rfl
abbrev b_K_steps : ByteArray := prog_1_method_18_code
def y_K_steps : MethodName := ⟨R_K, "steps", "(I)I"⟩
abbrev m_K_steps : pMD := (y_K_steps, b_K_steps, 2, (some .int), { frames := 3, cells := 0, slots := 0, locals := 120 })
theorem wc_K_steps : Cond.code y_K_steps b_K_steps 2 (some .int) ∈ pTB := pT 507 (by decide +kernel) rfl
theorem wi_K_steps : Cond.instanceMethod y_K_steps ∈ pTB := pT 505 (by decide +kernel) rfl
theorem wl_K_steps : Cond.selects R_K y_K_steps y_K_steps ∈ pTB := pT 506 (by decide +kernel) rfl
abbrev b_K_typeAt : ByteArray := prog_1_method_19_code
def y_K_typeAt : MethodName := ⟨R_K, "typeAt", "(I)I"⟩
abbrev m_K_typeAt : pMD := (y_K_typeAt, b_K_typeAt, 2, (some .int), { frames := 2, cells := 0, slots := 0, locals := 80 })
theorem wc_K_typeAt : Cond.code y_K_typeAt b_K_typeAt 2 (some .int) ∈ pTB := pT 252 (by decide +kernel) rfl
theorem wi_K_typeAt : Cond.instanceMethod y_K_typeAt ∈ pTB := pT 251 (by decide +kernel) rfl
theorem wl_K_typeAt : Cond.selects R_K y_K_typeAt y_K_typeAt ∈ pTB := pT 1 (by decide +kernel) rfl
abbrev b_K_isA : ByteArray := prog_1_method_20_code
def y_K_isA : MethodName := ⟨R_K, "isA", "(II)Z"⟩
abbrev m_K_isA : pMD := (y_K_isA, b_K_isA, 3, (some .boolean), { frames := 2, cells := 0, slots := 0, locals := 80 })
theorem wc_K_isA : Cond.code y_K_isA b_K_isA 3 (some .boolean) ∈ pTB := pT 284 (by decide +kernel) rfl
theorem wi_K_isA : Cond.instanceMethod y_K_isA ∈ pTB := pT 283 (by decide +kernel) rfl
theorem wl_K_isA : Cond.selects R_K y_K_isA y_K_isA ∈ pTB := pT 3 (by decide +kernel) rfl
abbrev b_K_declaredType : ByteArray := prog_1_method_21_code
def y_K_declaredType : MethodName := ⟨R_K, "declaredType", "(I)I"⟩
abbrev m_K_declaredType : pMD := (y_K_declaredType, b_K_declaredType, 4, (some .int), { frames := 2, cells := 0, slots := 0, locals := 80 })
theorem wc_K_declaredType : Cond.code y_K_declaredType b_K_declaredType 4 (some .int) ∈ pTB := pT 225 (by decide +kernel) rfl
theorem wi_K_declaredType : Cond.instanceMethod y_K_declaredType ∈ pTB := pT 224 (by decide +kernel) rfl
theorem wl_K_declaredType : Cond.selects R_K y_K_declaredType y_K_declaredType ∈ pTB := pT 0 (by decide +kernel) rfl
abbrev b_K_draftApplication : ByteArray := prog_1_method_22_code
def y_K_draftApplication : MethodName := ⟨R_K, "draftApplication", "(II)V"⟩
abbrev m_K_draftApplication : pMD := (y_K_draftApplication, b_K_draftApplication, 3, none, { frames := 4, cells := 0, slots := 0, locals := 160 })
theorem wc_K_draftApplication : Cond.code y_K_draftApplication b_K_draftApplication 3 none ∈ pTB := pT 260 (by decide +kernel) rfl
theorem wi_K_draftApplication : Cond.instanceMethod y_K_draftApplication ∈ pTB := pT 259 (by decide +kernel) rfl
theorem wl_K_draftApplication : Cond.selects R_K y_K_draftApplication y_K_draftApplication ∈ pTB := pT 2 (by decide +kernel) rfl
abbrev b_K_draftAbstraction : ByteArray := prog_1_method_23_code
def y_K_draftAbstraction : MethodName := ⟨R_K, "draftAbstraction", "(II)V"⟩
abbrev m_K_draftAbstraction : pMD := (y_K_draftAbstraction, b_K_draftAbstraction, 4, none, { frames := 4, cells := 0, slots := 0, locals := 160 })
theorem wc_K_draftAbstraction : Cond.code y_K_draftAbstraction b_K_draftAbstraction 4 none ∈ pTB := pT 310 (by decide +kernel) rfl
theorem wi_K_draftAbstraction : Cond.instanceMethod y_K_draftAbstraction ∈ pTB := pT 309 (by decide +kernel) rfl
theorem wl_K_draftAbstraction : Cond.selects R_K y_K_draftAbstraction y_K_draftAbstraction ∈ pTB := pT 6 (by decide +kernel) rfl
abbrev b_K_draftJoint : ByteArray := prog_1_method_24_code
def y_K_draftJoint : MethodName := ⟨R_K, "draftJoint", "(III)V"⟩
abbrev m_K_draftJoint : pMD := (y_K_draftJoint, b_K_draftJoint, 4, none, { frames := 4, cells := 0, slots := 0, locals := 160 })
theorem wc_K_draftJoint : Cond.code y_K_draftJoint b_K_draftJoint 4 none ∈ pTB := pT 326 (by decide +kernel) rfl
theorem wi_K_draftJoint : Cond.instanceMethod y_K_draftJoint ∈ pTB := pT 325 (by decide +kernel) rfl
theorem wl_K_draftJoint : Cond.selects R_K y_K_draftJoint y_K_draftJoint ∈ pTB := pT 7 (by decide +kernel) rfl
abbrev b_K_isThere : ByteArray := prog_1_method_25_code
def y_K_isThere : MethodName := ⟨R_K, "isThere", "(II)Z"⟩
abbrev m_K_isThere : pMD := (y_K_isThere, b_K_isThere, 3, (some .boolean), { frames := 2, cells := 0, slots := 0, locals := 80 })
theorem wc_K_isThere : Cond.code y_K_isThere b_K_isThere 3 (some .boolean) ∈ pTB := pT 336 (by decide +kernel) rfl
theorem wi_K_isThere : Cond.instanceMethod y_K_isThere ∈ pTB := pT 335 (by decide +kernel) rfl
theorem wl_K_isThere : Cond.selects R_K y_K_isThere y_K_isThere ∈ pTB := pT 8 (by decide +kernel) rfl
abbrev b_K_startOf : ByteArray := prog_1_method_26_code
def y_K_startOf : MethodName := ⟨R_K, "startOf", "(II)I"⟩
abbrev m_K_startOf : pMD := (y_K_startOf, b_K_startOf, 3, (some .int), { frames := 2, cells := 0, slots := 0, locals := 80 })
theorem wc_K_startOf : Cond.code y_K_startOf b_K_startOf 3 (some .int) ∈ pTB := pT 350 (by decide +kernel) rfl
theorem wi_K_startOf : Cond.instanceMethod y_K_startOf ∈ pTB := pT 349 (by decide +kernel) rfl
theorem wl_K_startOf : Cond.selects R_K y_K_startOf y_K_startOf ∈ pTB := pT 10 (by decide +kernel) rfl
abbrev b_K_isAsTheRuleSays : ByteArray := prog_1_method_27_code
def y_K_isAsTheRuleSays : MethodName := ⟨R_K, "isAsTheRuleSays", "(III)Z"⟩
abbrev m_K_isAsTheRuleSays : pMD := (y_K_isAsTheRuleSays, b_K_isAsTheRuleSays, 6, (some .boolean), { frames := 4, cells := 0, slots := 0, locals := 160 })
theorem wc_K_isAsTheRuleSays : Cond.code y_K_isAsTheRuleSays b_K_isAsTheRuleSays 6 (some .boolean) ∈ pTB := pT 346 (by decide +kernel) rfl
theorem wi_K_isAsTheRuleSays : Cond.instanceMethod y_K_isAsTheRuleSays ∈ pTB := pT 345 (by decide +kernel) rfl
theorem wl_K_isAsTheRuleSays : Cond.selects R_K y_K_isAsTheRuleSays y_K_isAsTheRuleSays ∈ pTB := pT 9 (by decide +kernel) rfl
abbrev b_K_bindsWhatIsAssumed : ByteArray := prog_1_method_28_code
def y_K_bindsWhatIsAssumed : MethodName := ⟨R_K, "bindsWhatIsAssumed", "(III)Z"⟩
abbrev m_K_bindsWhatIsAssumed : pMD := (y_K_bindsWhatIsAssumed, b_K_bindsWhatIsAssumed, 6, (some .boolean), { frames := 3, cells := 0, slots := 0, locals := 120 })
theorem wc_K_bindsWhatIsAssumed : Cond.code y_K_bindsWhatIsAssumed b_K_bindsWhatIsAssumed 6 (some .boolean) ∈ pTB := pT 372 (by decide +kernel) rfl
theorem wi_K_bindsWhatIsAssumed : Cond.instanceMethod y_K_bindsWhatIsAssumed ∈ pTB := pT 371 (by decide +kernel) rfl
theorem wl_K_bindsWhatIsAssumed : Cond.selects R_K y_K_bindsWhatIsAssumed y_K_bindsWhatIsAssumed ∈ pTB := pT 11 (by decide +kernel) rfl
abbrev b_K_derive : ByteArray := prog_1_method_29_code
def y_K_derive : MethodName := ⟨R_K, "derive", "(III)I"⟩
abbrev m_K_derive : pMD := (y_K_derive, b_K_derive, 9, (some .int), { frames := 7, cells := 0, slots := 0, locals := 280 })
theorem wc_K_derive : Cond.code y_K_derive b_K_derive 9 (some .int) ∈ pTB := pT 391 (by decide +kernel) rfl
theorem wi_K_derive : Cond.instanceMethod y_K_derive ∈ pTB := pT 390 (by decide +kernel) rfl
theorem wl_K_derive : Cond.selects R_K y_K_derive y_K_derive ∈ pTB := pT 12 (by decide +kernel) rfl
abbrev b_K_joinedHypotheses : ByteArray := prog_1_method_30_code
def y_K_joinedHypotheses : MethodName := ⟨R_K, "joinedHypotheses", "(III)J"⟩
abbrev m_K_joinedHypotheses : pMD := (y_K_joinedHypotheses, b_K_joinedHypotheses, 6, (some .long), { frames := 2, cells := 0, slots := 0, locals := 80 })
theorem wc_K_joinedHypotheses : Cond.code y_K_joinedHypotheses b_K_joinedHypotheses 6 (some .long) ∈ pTB := pT 409 (by decide +kernel) rfl
theorem wi_K_joinedHypotheses : Cond.instanceMethod y_K_joinedHypotheses ∈ pTB := pT 408 (by decide +kernel) rfl
theorem wl_K_joinedHypotheses : Cond.selects R_K y_K_joinedHypotheses y_K_joinedHypotheses ∈ pTB := pT 15 (by decide +kernel) rfl
abbrev b_K_substitutedHypotheses : ByteArray := prog_1_method_31_code
def y_K_substitutedHypotheses : MethodName := ⟨R_K, "substitutedHypotheses", "(II)J"⟩
abbrev m_K_substitutedHypotheses : pMD := (y_K_substitutedHypotheses, b_K_substitutedHypotheses, 9, (some .long), { frames := 6, cells := 0, slots := 0, locals := 240 })
theorem wc_K_substitutedHypotheses : Cond.code y_K_substitutedHypotheses b_K_substitutedHypotheses 9 (some .long) ∈ pTB := pT 395 (by decide +kernel) rfl
theorem wi_K_substitutedHypotheses : Cond.instanceMethod y_K_substitutedHypotheses ∈ pTB := pT 394 (by decide +kernel) rfl
theorem wl_K_substitutedHypotheses : Cond.selects R_K y_K_substitutedHypotheses y_K_substitutedHypotheses ∈ pTB := pT 13 (by decide +kernel) rfl
abbrev b_K_draftSubstituted : ByteArray := prog_1_method_32_code
def y_K_draftSubstituted : MethodName := ⟨R_K, "draftSubstituted", "(II)V"⟩
abbrev m_K_draftSubstituted : pMD := (y_K_draftSubstituted, b_K_draftSubstituted, 4, none, { frames := 5, cells := 0, slots := 0, locals := 200 })
theorem wc_K_draftSubstituted : Cond.code y_K_draftSubstituted b_K_draftSubstituted 4 none ∈ pTB := pT 399 (by decide +kernel) rfl
theorem wi_K_draftSubstituted : Cond.instanceMethod y_K_draftSubstituted ∈ pTB := pT 398 (by decide +kernel) rfl
theorem wl_K_draftSubstituted : Cond.selects R_K y_K_draftSubstituted y_K_draftSubstituted ∈ pTB := pT 14 (by decide +kernel) rfl
abbrev b_K_draftConclusion : ByteArray := prog_1_method_33_code
def y_K_draftConclusion : MethodName := ⟨R_K, "draftConclusion", "(III)V"⟩
abbrev m_K_draftConclusion : pMD := (y_K_draftConclusion, b_K_draftConclusion, 6, none, { frames := 6, cells := 0, slots := 0, locals := 240 })
theorem wc_K_draftConclusion : Cond.code y_K_draftConclusion b_K_draftConclusion 6 none ∈ pTB := pT 414 (by decide +kernel) rfl
theorem wi_K_draftConclusion : Cond.instanceMethod y_K_draftConclusion ∈ pTB := pT 413 (by decide +kernel) rfl
theorem wl_K_draftConclusion : Cond.selects R_K y_K_draftConclusion y_K_draftConclusion ∈ pTB := pT 16 (by decide +kernel) rfl
abbrev b_K_isIn : ByteArray := prog_1_method_34_code
def y_K_isIn : MethodName := ⟨R_K, "isIn", "(JI)Z"⟩
abbrev m_K_isIn : pMD := (y_K_isIn, b_K_isIn, 3, (some .boolean), { frames := 1, cells := 0, slots := 0, locals := 40 })
theorem wc_K_isIn : Cond.code y_K_isIn b_K_isIn 3 (some .boolean) ∈ pTB := pT 379 (by decide +kernel) rfl
theorem ws_K_isIn : Cond.static y_K_isIn ∈ pTB := pT 378 (by decide +kernel) rfl
abbrev b_M_init : ByteArray := prog_8_method_1_code
def y_M_init : MethodName := ⟨R_M, "<init>", "()V"⟩
abbrev m_M_init : pMD := (y_M_init, b_M_init, 1, none, { frames := 1, cells := 12, slots := 3432, locals := 40 })
theorem wc_M_init : Cond.code y_M_init b_M_init 1 none ∈ pTB := pT 524 (by decide +kernel) rfl
theorem wi_M_init : Cond.instanceMethod y_M_init ∈ pTB := pT 523 (by decide +kernel) rfl
abbrev b_M_parts : ByteArray := prog_8_method_2_code
def y_M_parts : MethodName := ⟨R_M, "parts", "(I)I"⟩
abbrev m_M_parts : pMD := (y_M_parts, b_M_parts, 1, (some .int), { frames := 1, cells := 0, slots := 0, locals := 40 })
theorem wc_M_parts : Cond.code y_M_parts b_M_parts 1 (some .int) ∈ pTB := pT 615 (by decide +kernel) rfl
theorem ws_M_parts : Cond.static y_M_parts ∈ pTB := pT 614 (by decide +kernel) rfl
abbrev b_M_isVariable : ByteArray := prog_8_method_3_code
def y_M_isVariable : MethodName := ⟨R_M, "isVariable", "(I)Z"⟩
abbrev m_M_isVariable : pMD := (y_M_isVariable, b_M_isVariable, 1, (some .boolean), { frames := 1, cells := 0, slots := 0, locals := 40 })
theorem wc_M_isVariable : Cond.code y_M_isVariable b_M_isVariable 1 (some .boolean) ∈ pTB := pT 654 (by decide +kernel) rfl
theorem ws_M_isVariable : Cond.static y_M_isVariable ∈ pTB := pT 653 (by decide +kernel) rfl
abbrev b_M_end : ByteArray := prog_8_method_4_code
def y_M_end : MethodName := ⟨R_M, "end", "(I)I"⟩
abbrev m_M_end : pMD := (y_M_end, b_M_end, 4, (some .int), { frames := 2, cells := 0, slots := 0, locals := 80 })
theorem wc_M_end : Cond.code y_M_end b_M_end 4 (some .int) ∈ pTB := pT 612 (by decide +kernel) rfl
theorem wi_M_end : Cond.instanceMethod y_M_end ∈ pTB := pT 611 (by decide +kernel) rfl
theorem wl_M_end : Cond.selects R_M y_M_end y_M_end ∈ pTB := pT 25 (by decide +kernel) rfl
abbrev b_M_same : ByteArray := prog_8_method_5_code
def y_M_same : MethodName := ⟨R_M, "same", "(II)Z"⟩
abbrev m_M_same : pMD := (y_M_same, b_M_same, 6, (some .boolean), { frames := 3, cells := 0, slots := 0, locals := 120 })
theorem wc_M_same : Cond.code y_M_same b_M_same 6 (some .boolean) ∈ pTB := pT 608 (by decide +kernel) rfl
theorem wi_M_same : Cond.instanceMethod y_M_same ∈ pTB := pT 607 (by decide +kernel) rfl
theorem wl_M_same : Cond.selects R_M y_M_same y_M_same ∈ pTB := pT 24 (by decide +kernel) rfl
abbrev b_M_depth : ByteArray := prog_8_method_6_code
def y_M_depth : MethodName := ⟨R_M, "depth", "(II)I"⟩
abbrev m_M_depth : pMD := (y_M_depth, b_M_depth, 5, (some .int), { frames := 3, cells := 0, slots := 0, locals := 120 })
theorem wc_M_depth : Cond.code y_M_depth b_M_depth 5 (some .int) ∈ pTB := pT 663 (by decide +kernel) rfl
theorem wi_M_depth : Cond.instanceMethod y_M_depth ∈ pTB := pT 662 (by decide +kernel) rfl
theorem wl_M_depth : Cond.selects R_M y_M_depth y_M_depth ∈ pTB := pT 33 (by decide +kernel) rfl
abbrev b_M_binder : ByteArray := prog_8_method_7_code
def y_M_binder : MethodName := ⟨R_M, "binder", "(I)I"⟩
abbrev m_M_binder : pMD := (y_M_binder, b_M_binder, 4, (some .int), { frames := 3, cells := 0, slots := 0, locals := 120 })
theorem wc_M_binder : Cond.code y_M_binder b_M_binder 4 (some .int) ∈ pTB := pT 623 (by decide +kernel) rfl
theorem wi_M_binder : Cond.instanceMethod y_M_binder ∈ pTB := pT 622 (by decide +kernel) rfl
theorem wl_M_binder : Cond.selects R_M y_M_binder y_M_binder ∈ pTB := pT 27 (by decide +kernel) rfl
abbrev b_M_find : ByteArray := prog_8_method_8_code
def y_M_find : MethodName := ⟨R_M, "find", "(II)I"⟩
abbrev m_M_find : pMD := (y_M_find, b_M_find, 4, (some .int), { frames := 1, cells := 0, slots := 0, locals := 40 })
theorem wc_M_find : Cond.code y_M_find b_M_find 4 (some .int) ∈ pTB := pT 592 (by decide +kernel) rfl
theorem wi_M_find : Cond.instanceMethod y_M_find ∈ pTB := pT 591 (by decide +kernel) rfl
theorem wl_M_find : Cond.selects R_M y_M_find y_M_find ∈ pTB := pT 21 (by decide +kernel) rfl
abbrev b_M_typesAt : ByteArray := prog_8_method_9_code
def y_M_typesAt : MethodName := ⟨R_M, "typesAt", "(I)I"⟩
abbrev m_M_typesAt : pMD := (y_M_typesAt, b_M_typesAt, 6, (some .int), { frames := 4, cells := 0, slots := 0, locals := 160 })
theorem wc_M_typesAt : Cond.code y_M_typesAt b_M_typesAt 6 (some .int) ∈ pTB := pT 619 (by decide +kernel) rfl
theorem wi_M_typesAt : Cond.instanceMethod y_M_typesAt ∈ pTB := pT 618 (by decide +kernel) rfl
theorem wl_M_typesAt : Cond.selects R_M y_M_typesAt y_M_typesAt ∈ pTB := pT 26 (by decide +kernel) rfl
abbrev b_M_put : ByteArray := prog_8_method_10_code
def y_M_put : MethodName := ⟨R_M, "put", "(I)V"⟩
abbrev m_M_put : pMD := (y_M_put, b_M_put, 2, none, { frames := 1, cells := 0, slots := 0, locals := 40 })
theorem wc_M_put : Cond.code y_M_put b_M_put 2 none ∈ pTB := pT 600 (by decide +kernel) rfl
theorem wi_M_put : Cond.instanceMethod y_M_put ∈ pTB := pT 599 (by decide +kernel) rfl
theorem wl_M_put : Cond.selects R_M y_M_put y_M_put ∈ pTB := pT 22 (by decide +kernel) rfl
abbrev b_M_copy : ByteArray := prog_8_method_11_code
def y_M_copy : MethodName := ⟨R_M, "copy", "(I)V"⟩
abbrev m_M_copy : pMD := (y_M_copy, b_M_copy, 4, none, { frames := 3, cells := 0, slots := 0, locals := 120 })
theorem wc_M_copy : Cond.code y_M_copy b_M_copy 4 none ∈ pTB := pT 643 (by decide +kernel) rfl
theorem wi_M_copy : Cond.instanceMethod y_M_copy ∈ pTB := pT 642 (by decide +kernel) rfl
theorem wl_M_copy : Cond.selects R_M y_M_copy y_M_copy ∈ pTB := pT 30 (by decide +kernel) rfl
abbrev b_M_copyWith : ByteArray := prog_8_method_12_code
def y_M_copyWith : MethodName := ⟨R_M, "copyWith", "(III)V"⟩
abbrev m_M_copyWith : pMD := (y_M_copyWith, b_M_copyWith, 6, none, { frames := 4, cells := 0, slots := 0, locals := 160 })
theorem wc_M_copyWith : Cond.code y_M_copyWith b_M_copyWith 6 none ∈ pTB := pT 659 (by decide +kernel) rfl
theorem wi_M_copyWith : Cond.instanceMethod y_M_copyWith ∈ pTB := pT 658 (by decide +kernel) rfl
theorem wl_M_copyWith : Cond.selects R_M y_M_copyWith y_M_copyWith ∈ pTB := pT 32 (by decide +kernel) rfl
abbrev b_M_copyOpened : ByteArray := prog_8_method_13_code
def y_M_copyOpened : MethodName := ⟨R_M, "copyOpened", "(II)V"⟩
abbrev m_M_copyOpened : pMD := (y_M_copyOpened, b_M_copyOpened, 5, none, { frames := 4, cells := 0, slots := 0, locals := 160 })
theorem wc_M_copyOpened : Cond.code y_M_copyOpened b_M_copyOpened 5 none ∈ pTB := pT 703 (by decide +kernel) rfl
theorem wi_M_copyOpened : Cond.instanceMethod y_M_copyOpened ∈ pTB := pT 702 (by decide +kernel) rfl
theorem wl_M_copyOpened : Cond.selects R_M y_M_copyOpened y_M_copyOpened ∈ pTB := pT 40 (by decide +kernel) rfl
abbrev b_M_keep : ByteArray := prog_8_method_14_code
def y_M_keep : MethodName := ⟨R_M, "keep", "()I"⟩
abbrev m_M_keep : pMD := (y_M_keep, b_M_keep, 2, (some .int), { frames := 5, cells := 0, slots := 0, locals := 200 })
theorem wc_M_keep : Cond.code y_M_keep b_M_keep 2 (some .int) ∈ pTB := pT 604 (by decide +kernel) rfl
theorem wi_M_keep : Cond.instanceMethod y_M_keep ∈ pTB := pT 603 (by decide +kernel) rfl
theorem wl_M_keep : Cond.selects R_M y_M_keep y_M_keep ∈ pTB := pT 23 (by decide +kernel) rfl
abbrev b_M_isType : ByteArray := prog_8_method_15_code
def y_M_isType : MethodName := ⟨R_M, "isType", "(I)Z"⟩
abbrev m_M_isType : pMD := (y_M_isType, b_M_isType, 2, (some .boolean), { frames := 1, cells := 0, slots := 0, locals := 40 })
theorem wc_M_isType : Cond.code y_M_isType b_M_isType 2 (some .boolean) ∈ pTB := pT 588 (by decide +kernel) rfl
theorem wi_M_isType : Cond.instanceMethod y_M_isType ∈ pTB := pT 587 (by decide +kernel) rfl
theorem wl_M_isType : Cond.selects R_M y_M_isType y_M_isType ∈ pTB := pT 20 (by decide +kernel) rfl
abbrev b_M_isTerm : ByteArray := prog_8_method_16_code
def y_M_isTerm : MethodName := ⟨R_M, "isTerm", "(I)Z"⟩
abbrev m_M_isTerm : pMD := (y_M_isTerm, b_M_isTerm, 2, (some .boolean), { frames := 1, cells := 0, slots := 0, locals := 40 })
theorem wc_M_isTerm : Cond.code y_M_isTerm b_M_isTerm 2 (some .boolean) ∈ pTB := pT 635 (by decide +kernel) rfl
theorem wi_M_isTerm : Cond.instanceMethod y_M_isTerm ∈ pTB := pT 634 (by decide +kernel) rfl
theorem wl_M_isTerm : Cond.selects R_M y_M_isTerm y_M_isTerm ∈ pTB := pT 28 (by decide +kernel) rfl
abbrev b_M_isVariableTerm : ByteArray := prog_8_method_17_code
def y_M_isVariableTerm : MethodName := ⟨R_M, "isVariableTerm", "(I)Z"⟩
abbrev m_M_isVariableTerm : pMD := (y_M_isVariableTerm, b_M_isVariableTerm, 2, (some .boolean), { frames := 2, cells := 0, slots := 0, locals := 80 })
theorem wc_M_isVariableTerm : Cond.code y_M_isVariableTerm b_M_isVariableTerm 2 (some .boolean) ∈ pTB := pT 651 (by decide +kernel) rfl
theorem wi_M_isVariableTerm : Cond.instanceMethod y_M_isVariableTerm ∈ pTB := pT 650 (by decide +kernel) rfl
theorem wl_M_isVariableTerm : Cond.selects R_M y_M_isVariableTerm y_M_isVariableTerm ∈ pTB := pT 31 (by decide +kernel) rfl
abbrev b_M_arrow : ByteArray := prog_8_method_18_code
def y_M_arrow : MethodName := ⟨R_M, "arrow", "(II)I"⟩
abbrev m_M_arrow : pMD := (y_M_arrow, b_M_arrow, 4, (some .int), { frames := 2, cells := 0, slots := 0, locals := 80 })
theorem wc_M_arrow : Cond.code y_M_arrow b_M_arrow 4 (some .int) ∈ pTB := pT 584 (by decide +kernel) rfl
theorem wi_M_arrow : Cond.instanceMethod y_M_arrow ∈ pTB := pT 582 (by decide +kernel) rfl
theorem wl_M_arrow : Cond.selects R_M y_M_arrow y_M_arrow ∈ pTB := pT 583 (by decide +kernel) rfl
abbrev b_M_variable : ByteArray := prog_8_method_19_code
def y_M_variable : MethodName := ⟨R_M, "variable", "(II)I"⟩
abbrev m_M_variable : pMD := (y_M_variable, b_M_variable, 3, (some .int), { frames := 6, cells := 0, slots := 0, locals := 240 })
theorem wc_M_variable : Cond.code y_M_variable b_M_variable 3 (some .int) ∈ pTB := pT 596 (by decide +kernel) rfl
theorem wi_M_variable : Cond.instanceMethod y_M_variable ∈ pTB := pT 594 (by decide +kernel) rfl
theorem wl_M_variable : Cond.selects R_M y_M_variable y_M_variable ∈ pTB := pT 595 (by decide +kernel) rfl
abbrev b_M_constant : ByteArray := prog_8_method_20_code
def y_M_constant : MethodName := ⟨R_M, "constant", "(II)I"⟩
abbrev m_M_constant : pMD := (y_M_constant, b_M_constant, 5, (some .int), { frames := 6, cells := 0, slots := 0, locals := 240 })
theorem wc_M_constant : Cond.code y_M_constant b_M_constant 5 (some .int) ∈ pTB := pT 627 (by decide +kernel) rfl
theorem wi_M_constant : Cond.instanceMethod y_M_constant ∈ pTB := pT 625 (by decide +kernel) rfl
theorem wl_M_constant : Cond.selects R_M y_M_constant y_M_constant ∈ pTB := pT 626 (by decide +kernel) rfl
abbrev b_M_fits : ByteArray := prog_8_method_21_code
def y_M_fits : MethodName := ⟨R_M, "fits", "(II)Z"⟩
abbrev m_M_fits : pMD := (y_M_fits, b_M_fits, 3, (some .boolean), { frames := 1, cells := 0, slots := 0, locals := 40 })
theorem wc_M_fits : Cond.code y_M_fits b_M_fits 3 (some .boolean) ∈ pTB := pT 639 (by decide +kernel) rfl
theorem wi_M_fits : Cond.instanceMethod y_M_fits ∈ pTB := pT 638 (by decide +kernel) rfl
theorem wl_M_fits : Cond.selects R_M y_M_fits y_M_fits ∈ pTB := pT 29 (by decide +kernel) rfl
abbrev b_M_apply : ByteArray := prog_8_method_22_code
def y_M_apply : MethodName := ⟨R_M, "apply", "(II)I"⟩
abbrev m_M_apply : pMD := (y_M_apply, b_M_apply, 3, (some .int), { frames := 6, cells := 0, slots := 0, locals := 240 })
theorem wc_M_apply : Cond.code y_M_apply b_M_apply 3 (some .int) ∈ pTB := pT 631 (by decide +kernel) rfl
theorem wi_M_apply : Cond.instanceMethod y_M_apply ∈ pTB := pT 629 (by decide +kernel) rfl
theorem wl_M_apply : Cond.selects R_M y_M_apply y_M_apply ∈ pTB := pT 630 (by decide +kernel) rfl
abbrev b_M_bind : ByteArray := prog_8_method_23_code
def y_M_bind : MethodName := ⟨R_M, "bind", "(ZII)I"⟩
abbrev m_M_bind : pMD := (y_M_bind, b_M_bind, 6, (some .int), { frames := 6, cells := 0, slots := 0, locals := 240 })
theorem wc_M_bind : Cond.code y_M_bind b_M_bind 6 (some .int) ∈ pTB := pT 647 (by decide +kernel) rfl
theorem wi_M_bind : Cond.instanceMethod y_M_bind ∈ pTB := pT 645 (by decide +kernel) rfl
theorem wl_M_bind : Cond.selects R_M y_M_bind y_M_bind ∈ pTB := pT 646 (by decide +kernel) rfl
abbrev b_M_join : ByteArray := prog_8_method_24_code
def y_M_join : MethodName := ⟨R_M, "join", "(ZII)I"⟩
abbrev m_M_join : pMD := (y_M_join, b_M_join, 4, (some .int), { frames := 6, cells := 0, slots := 0, locals := 240 })
theorem wc_M_join : Cond.code y_M_join b_M_join 4 (some .int) ∈ pTB := pT 667 (by decide +kernel) rfl
theorem wi_M_join : Cond.instanceMethod y_M_join ∈ pTB := pT 665 (by decide +kernel) rfl
theorem wl_M_join : Cond.selects R_M y_M_join y_M_join ∈ pTB := pT 666 (by decide +kernel) rfl
abbrev b_M_isTheorem : ByteArray := prog_8_method_25_code
def y_M_isTheorem : MethodName := ⟨R_M, "isTheorem", "(I)Z"⟩
abbrev m_M_isTheorem : pMD := (y_M_isTheorem, b_M_isTheorem, 2, (some .boolean), { frames := 1, cells := 0, slots := 0, locals := 40 })
theorem wc_M_isTheorem : Cond.code y_M_isTheorem b_M_isTheorem 2 (some .boolean) ∈ pTB := pT 682 (by decide +kernel) rfl
theorem wi_M_isTheorem : Cond.instanceMethod y_M_isTheorem ∈ pTB := pT 681 (by decide +kernel) rfl
theorem wl_M_isTheorem : Cond.selects R_M y_M_isTheorem y_M_isTheorem ∈ pTB := pT 35 (by decide +kernel) rfl
abbrev b_M_isIn : ByteArray := prog_8_method_26_code
def y_M_isIn : MethodName := ⟨R_M, "isIn", "(II)Z"⟩
abbrev m_M_isIn : pMD := (y_M_isIn, b_M_isIn, 5, (some .boolean), { frames := 1, cells := 0, slots := 0, locals := 40 })
theorem wc_M_isIn : Cond.code y_M_isIn b_M_isIn 5 (some .boolean) ∈ pTB := pT 699 (by decide +kernel) rfl
theorem wi_M_isIn : Cond.instanceMethod y_M_isIn ∈ pTB := pT 698 (by decide +kernel) rfl
theorem wl_M_isIn : Cond.selects R_M y_M_isIn y_M_isIn ∈ pTB := pT 39 (by decide +kernel) rfl
abbrev b_M_freeInSet : ByteArray := prog_8_method_27_code
def y_M_freeInSet : MethodName := ⟨R_M, "freeInSet", "(I)Z"⟩
abbrev m_M_freeInSet : pMD := (y_M_freeInSet, b_M_freeInSet, 4, (some .boolean), { frames := 2, cells := 0, slots := 0, locals := 80 })
theorem wc_M_freeInSet : Cond.code y_M_freeInSet b_M_freeInSet 4 (some .boolean) ∈ pTB := pT 695 (by decide +kernel) rfl
theorem wi_M_freeInSet : Cond.instanceMethod y_M_freeInSet ∈ pTB := pT 694 (by decide +kernel) rfl
theorem wl_M_freeInSet : Cond.selects R_M y_M_freeInSet y_M_freeInSet ∈ pTB := pT 38 (by decide +kernel) rfl
abbrev b_M_named : ByteArray := prog_8_method_28_code
def y_M_named : MethodName := ⟨R_M, "named", "(I)I"⟩
abbrev m_M_named : pMD := (y_M_named, b_M_named, 1, (some .int), { frames := 1, cells := 0, slots := 0, locals := 40 })
theorem wc_M_named : Cond.code y_M_named b_M_named 1 (some .int) ∈ pTB := pT 678 (by decide +kernel) rfl
theorem ws_M_named : Cond.static y_M_named ∈ pTB := pT 677 (by decide +kernel) rfl
abbrev b_M_there : ByteArray := prog_8_method_29_code
def y_M_there : MethodName := ⟨R_M, "there", "(III)Z"⟩
abbrev m_M_there : pMD := (y_M_there, b_M_there, 5, (some .boolean), { frames := 2, cells := 0, slots := 0, locals := 80 })
theorem wc_M_there : Cond.code y_M_there b_M_there 5 (some .boolean) ∈ pTB := pT 675 (by decide +kernel) rfl
theorem wi_M_there : Cond.instanceMethod y_M_there ∈ pTB := pT 674 (by decide +kernel) rfl
theorem wl_M_there : Cond.selects R_M y_M_there y_M_there ∈ pTB := pT 34 (by decide +kernel) rfl
abbrev b_M_reason : ByteArray := prog_8_method_30_code
def y_M_reason : MethodName := ⟨R_M, "reason", "(III)I"⟩
abbrev m_M_reason : pMD := (y_M_reason, b_M_reason, 6, (some .int), { frames := 5, cells := 0, slots := 0, locals := 200 })
theorem wc_M_reason : Cond.code y_M_reason b_M_reason 6 (some .int) ∈ pTB := pT 690 (by decide +kernel) rfl
theorem wi_M_reason : Cond.instanceMethod y_M_reason ∈ pTB := pT 689 (by decide +kernel) rfl
theorem wl_M_reason : Cond.selects R_M y_M_reason y_M_reason ∈ pTB := pT 37 (by decide +kernel) rfl
abbrev b_M_equate : ByteArray := prog_8_method_31_code
def y_M_equate : MethodName := ⟨R_M, "equate", "(III)I"⟩
abbrev m_M_equate : pMD := (y_M_equate, b_M_equate, 7, (some .int), { frames := 6, cells := 0, slots := 0, locals := 240 })
theorem wc_M_equate : Cond.code y_M_equate b_M_equate 7 (some .int) ∈ pTB := pT 707 (by decide +kernel) rfl
theorem wi_M_equate : Cond.instanceMethod y_M_equate ∈ pTB := pT 706 (by decide +kernel) rfl
theorem wl_M_equate : Cond.selects R_M y_M_equate y_M_equate ∈ pTB := pT 41 (by decide +kernel) rfl
abbrev b_M_abstraction : ByteArray := prog_8_method_32_code
def y_M_abstraction : MethodName := ⟨R_M, "abstraction", "(III)I"⟩
abbrev m_M_abstraction : pMD := (y_M_abstraction, b_M_abstraction, 5, (some .int), { frames := 5, cells := 0, slots := 0, locals := 200 })
theorem wc_M_abstraction : Cond.code y_M_abstraction b_M_abstraction 5 (some .int) ∈ pTB := pT 711 (by decide +kernel) rfl
theorem wi_M_abstraction : Cond.instanceMethod y_M_abstraction ∈ pTB := pT 710 (by decide +kernel) rfl
theorem wl_M_abstraction : Cond.selects R_M y_M_abstraction y_M_abstraction ∈ pTB := pT 42 (by decide +kernel) rfl
abbrev b_M_two : ByteArray := prog_8_method_33_code
def y_M_two : MethodName := ⟨R_M, "two", "(IIII)I"⟩
abbrev m_M_two : pMD := (y_M_two, b_M_two, 8, (some .int), { frames := 5, cells := 0, slots := 0, locals := 200 })
theorem wc_M_two : Cond.code y_M_two b_M_two 8 (some .int) ∈ pTB := pT 715 (by decide +kernel) rfl
theorem wi_M_two : Cond.instanceMethod y_M_two ∈ pTB := pT 714 (by decide +kernel) rfl
theorem wl_M_two : Cond.selects R_M y_M_two y_M_two ∈ pTB := pT 43 (by decide +kernel) rfl
abbrev b_M_substitute : ByteArray := prog_8_method_34_code
def y_M_substitute : MethodName := ⟨R_M, "substitute", "(III)I"⟩
abbrev m_M_substitute : pMD := (y_M_substitute, b_M_substitute, 10, (some .int), { frames := 6, cells := 0, slots := 0, locals := 240 })
theorem wc_M_substitute : Cond.code y_M_substitute b_M_substitute 10 (some .int) ∈ pTB := pT 686 (by decide +kernel) rfl
theorem wi_M_substitute : Cond.instanceMethod y_M_substitute ∈ pTB := pT 685 (by decide +kernel) rfl
theorem wl_M_substitute : Cond.selects R_M y_M_substitute y_M_substitute ∈ pTB := pT 36 (by decide +kernel) rfl
abbrev b_M_rule : ByteArray := prog_8_method_35_code
def y_M_rule : MethodName := ⟨R_M, "rule", "(III)I"⟩
abbrev m_M_rule : pMD := (y_M_rule, b_M_rule, 11, (some .int), { frames := 7, cells := 0, slots := 0, locals := 280 })
theorem wc_M_rule : Cond.code y_M_rule b_M_rule 11 (some .int) ∈ pTB := pT 671 (by decide +kernel) rfl
theorem wi_M_rule : Cond.instanceMethod y_M_rule ∈ pTB := pT 669 (by decide +kernel) rfl
theorem wl_M_rule : Cond.selects R_M y_M_rule y_M_rule ∈ pTB := pT 670 (by decide +kernel) rfl
abbrev b_M_terms : ByteArray := prog_8_method_36_code
def y_M_terms : MethodName := ⟨R_M, "terms", "()I"⟩
abbrev m_M_terms : pMD := (y_M_terms, b_M_terms, 1, (some .int), { frames := 1, cells := 0, slots := 0, locals := 40 })
theorem wc_M_terms : Cond.code y_M_terms b_M_terms 1 (some .int) ∈ pTB := pT 720 (by decide +kernel) rfl
theorem wi_M_terms : Cond.instanceMethod y_M_terms ∈ pTB := pT 718 (by decide +kernel) rfl
theorem wl_M_terms : Cond.selects R_M y_M_terms y_M_terms ∈ pTB := pT 719 (by decide +kernel) rfl
abbrev b_M_theorems : ByteArray := prog_8_method_37_code
def y_M_theorems : MethodName := ⟨R_M, "theorems", "()I"⟩
abbrev m_M_theorems : pMD := (y_M_theorems, b_M_theorems, 1, (some .int), { frames := 1, cells := 0, slots := 0, locals := 40 })
theorem wc_M_theorems : Cond.code y_M_theorems b_M_theorems 1 (some .int) ∈ pTB := pT 724 (by decide +kernel) rfl
theorem wi_M_theorems : Cond.instanceMethod y_M_theorems ∈ pTB := pT 722 (by decide +kernel) rfl
theorem wl_M_theorems : Cond.selects R_M y_M_theorems y_M_theorems ∈ pTB := pT 723 (by decide +kernel) rfl
abbrev b_M_typeOf : ByteArray := prog_8_method_38_code
def y_M_typeOf : MethodName := ⟨R_M, "typeOf", "(I)I"⟩
abbrev m_M_typeOf : pMD := (y_M_typeOf, b_M_typeOf, 2, (some .int), { frames := 2, cells := 0, slots := 0, locals := 80 })
theorem wc_M_typeOf : Cond.code y_M_typeOf b_M_typeOf 2 (some .int) ∈ pTB := pT 728 (by decide +kernel) rfl
theorem wi_M_typeOf : Cond.instanceMethod y_M_typeOf ∈ pTB := pT 726 (by decide +kernel) rfl
theorem wl_M_typeOf : Cond.selects R_M y_M_typeOf y_M_typeOf ∈ pTB := pT 727 (by decide +kernel) rfl
abbrev b_M_size : ByteArray := prog_8_method_39_code
def y_M_size : MethodName := ⟨R_M, "size", "(I)I"⟩
abbrev m_M_size : pMD := (y_M_size, b_M_size, 2, (some .int), { frames := 2, cells := 0, slots := 0, locals := 80 })
theorem wc_M_size : Cond.code y_M_size b_M_size 2 (some .int) ∈ pTB := pT 732 (by decide +kernel) rfl
theorem wi_M_size : Cond.instanceMethod y_M_size ∈ pTB := pT 730 (by decide +kernel) rfl
theorem wl_M_size : Cond.selects R_M y_M_size y_M_size ∈ pTB := pT 731 (by decide +kernel) rfl
abbrev b_M_free : ByteArray := prog_8_method_40_code
def y_M_free : MethodName := ⟨R_M, "free", "(II)Z"⟩
abbrev m_M_free : pMD := (y_M_free, b_M_free, 3, (some .boolean), { frames := 3, cells := 0, slots := 0, locals := 120 })
theorem wc_M_free : Cond.code y_M_free b_M_free 3 (some .boolean) ∈ pTB := pT 736 (by decide +kernel) rfl
theorem wi_M_free : Cond.instanceMethod y_M_free ∈ pTB := pT 734 (by decide +kernel) rfl
theorem wl_M_free : Cond.selects R_M y_M_free y_M_free ∈ pTB := pT 735 (by decide +kernel) rfl
abbrev b_M_say : ByteArray := prog_8_method_41_code
def y_M_say : MethodName := ⟨R_M, "say", "(I)V"⟩
abbrev m_M_say : pMD := (y_M_say, b_M_say, 2, none, { frames := 1, cells := 0, slots := 0, locals := 40 })
theorem wc_M_say : Cond.code y_M_say b_M_say 2 none ∈ pTB := pT 744 (by decide +kernel) rfl
theorem wi_M_say : Cond.instanceMethod y_M_say ∈ pTB := pT 743 (by decide +kernel) rfl
theorem wl_M_say : Cond.selects R_M y_M_say y_M_say ∈ pTB := pT 44 (by decide +kernel) rfl
abbrev b_M_printed : ByteArray := prog_8_method_42_code
def y_M_printed : MethodName := ⟨R_M, "printed", "(II)I"⟩
abbrev m_M_printed : pMD := (y_M_printed, b_M_printed, 6, (some .int), { frames := 2, cells := 0, slots := 0, locals := 80 })
theorem wc_M_printed : Cond.code y_M_printed b_M_printed 6 (some .int) ∈ pTB := pT 740 (by decide +kernel) rfl
theorem wi_M_printed : Cond.instanceMethod y_M_printed ∈ pTB := pT 738 (by decide +kernel) rfl
theorem wl_M_printed : Cond.selects R_M y_M_printed y_M_printed ∈ pTB := pT 739 (by decide +kernel) rfl
abbrev b_M_conclusion : ByteArray := prog_8_method_43_code
def y_M_conclusion : MethodName := ⟨R_M, "conclusion", "(I)I"⟩
abbrev m_M_conclusion : pMD := (y_M_conclusion, b_M_conclusion, 2, (some .int), { frames := 2, cells := 0, slots := 0, locals := 80 })
theorem wc_M_conclusion : Cond.code y_M_conclusion b_M_conclusion 2 (some .int) ∈ pTB := pT 748 (by decide +kernel) rfl
theorem wi_M_conclusion : Cond.instanceMethod y_M_conclusion ∈ pTB := pT 746 (by decide +kernel) rfl
theorem wl_M_conclusion : Cond.selects R_M y_M_conclusion y_M_conclusion ∈ pTB := pT 747 (by decide +kernel) rfl
abbrev b_M_hypotheses : ByteArray := prog_8_method_44_code
def y_M_hypotheses : MethodName := ⟨R_M, "hypotheses", "(I)J"⟩
abbrev m_M_hypotheses : pMD := (y_M_hypotheses, b_M_hypotheses, 2, (some .long), { frames := 2, cells := 0, slots := 0, locals := 80 })
theorem wc_M_hypotheses : Cond.code y_M_hypotheses b_M_hypotheses 2 (some .long) ∈ pTB := pT 752 (by decide +kernel) rfl
theorem wi_M_hypotheses : Cond.instanceMethod y_M_hypotheses ∈ pTB := pT 750 (by decide +kernel) rfl
theorem wl_M_hypotheses : Cond.selects R_M y_M_hypotheses y_M_hypotheses ∈ pTB := pT 751 (by decide +kernel) rfl
abbrev b_M_axioms : ByteArray := prog_8_method_45_code
def y_M_axioms : MethodName := ⟨R_M, "axioms", "(I)J"⟩
abbrev m_M_axioms : pMD := (y_M_axioms, b_M_axioms, 2, (some .long), { frames := 2, cells := 0, slots := 0, locals := 80 })
theorem wc_M_axioms : Cond.code y_M_axioms b_M_axioms 2 (some .long) ∈ pTB := pT 756 (by decide +kernel) rfl
theorem wi_M_axioms : Cond.instanceMethod y_M_axioms ∈ pTB := pT 754 (by decide +kernel) rfl
theorem wl_M_axioms : Cond.selects R_M y_M_axioms y_M_axioms ∈ pTB := pT 755 (by decide +kernel) rfl
abbrev b_M_steps : ByteArray := prog_8_method_46_code
def y_M_steps : MethodName := ⟨R_M, "steps", "(I)I"⟩
abbrev m_M_steps : pMD := (y_M_steps, b_M_steps, 2, (some .int), { frames := 2, cells := 0, slots := 0, locals := 80 })
theorem wc_M_steps : Cond.code y_M_steps b_M_steps 2 (some .int) ∈ pTB := pT 760 (by decide +kernel) rfl
theorem wi_M_steps : Cond.instanceMethod y_M_steps ∈ pTB := pT 758 (by decide +kernel) rfl
theorem wl_M_steps : Cond.selects R_M y_M_steps y_M_steps ∈ pTB := pT 759 (by decide +kernel) rfl
abbrev b_B_init : ByteArray := prog_2_method_1_code
def y_B_init : MethodName := ⟨R_B, "<init>", "()V"⟩
abbrev m_B_init : pMD := (y_B_init, b_B_init, 1, none, { frames := 1, cells := 6, slots := 240, locals := 40 })
theorem wc_B_init : Cond.code y_B_init b_B_init 1 none ∈ pTB := pT 122 (by decide +kernel) rfl
theorem wi_B_init : Cond.instanceMethod y_B_init ∈ pTB := pT 121 (by decide +kernel) rfl
abbrev b_B_count : ByteArray := prog_2_method_2_code
def y_B_count : MethodName := ⟨R_B, "count", "()I"⟩
abbrev m_B_count : pMD := (y_B_count, b_B_count, 1, (some .int), { frames := 1, cells := 0, slots := 0, locals := 40 })
theorem wc_B_count : Cond.code y_B_count b_B_count 1 (some .int) ∈ pTB := pT 440 (by decide +kernel) rfl
theorem wi_B_count : Cond.instanceMethod y_B_count ∈ pTB := pT 438 (by decide +kernel) rfl
theorem wl_B_count : Cond.selects R_B y_B_count y_B_count ∈ pTB := pT 439 (by decide +kernel) rfl
abbrev b_B_has : ByteArray := prog_2_method_3_code
def y_B_has : MethodName := ⟨R_B, "has", "(I)Z"⟩
abbrev m_B_has : pMD := (y_B_has, b_B_has, 2, (some .boolean), { frames := 1, cells := 0, slots := 0, locals := 40 })
theorem wc_B_has : Cond.code y_B_has b_B_has 2 (some .boolean) ∈ pTB := pT 340 (by decide +kernel) rfl
theorem wi_B_has : Cond.instanceMethod y_B_has ∈ pTB := pT 338 (by decide +kernel) rfl
theorem wl_B_has : Cond.selects R_B y_B_has y_B_has ∈ pTB := pT 339 (by decide +kernel) rfl
abbrev b_B_isFull : ByteArray := prog_2_method_4_code
def y_B_isFull : MethodName := ⟨R_B, "isFull", "()Z"⟩
abbrev m_B_isFull : pMD := (y_B_isFull, b_B_isFull, 1, (some .boolean), { frames := 1, cells := 0, slots := 0, locals := 40 })
theorem wc_B_isFull : Cond.code y_B_isFull b_B_isFull 1 (some .boolean) ∈ pTB := pT 387 (by decide +kernel) rfl
theorem wi_B_isFull : Cond.instanceMethod y_B_isFull ∈ pTB := pT 385 (by decide +kernel) rfl
theorem wl_B_isFull : Cond.selects R_B y_B_isFull y_B_isFull ∈ pTB := pT 386 (by decide +kernel) rfl
abbrev b_B_hypothesesOf : ByteArray := prog_2_method_5_code
def y_B_hypothesesOf : MethodName := ⟨R_B, "hypothesesOf", "(I)J"⟩
abbrev m_B_hypothesesOf : pMD := (y_B_hypothesesOf, b_B_hypothesesOf, 2, (some .long), { frames := 1, cells := 0, slots := 0, locals := 40 })
theorem wc_B_hypothesesOf : Cond.code y_B_hypothesesOf b_B_hypothesesOf 2 (some .long) ∈ pTB := pT 376 (by decide +kernel) rfl
theorem wi_B_hypothesesOf : Cond.instanceMethod y_B_hypothesesOf ∈ pTB := pT 374 (by decide +kernel) rfl
theorem wl_B_hypothesesOf : Cond.selects R_B y_B_hypothesesOf y_B_hypothesesOf ∈ pTB := pT 375 (by decide +kernel) rfl
abbrev b_B_conclusionOf : ByteArray := prog_2_method_6_code
def y_B_conclusionOf : MethodName := ⟨R_B, "conclusionOf", "(I)I"⟩
abbrev m_B_conclusionOf : pMD := (y_B_conclusionOf, b_B_conclusionOf, 2, (some .int), { frames := 1, cells := 0, slots := 0, locals := 40 })
theorem wc_B_conclusionOf : Cond.code y_B_conclusionOf b_B_conclusionOf 2 (some .int) ∈ pTB := pT 354 (by decide +kernel) rfl
theorem wi_B_conclusionOf : Cond.instanceMethod y_B_conclusionOf ∈ pTB := pT 352 (by decide +kernel) rfl
theorem wl_B_conclusionOf : Cond.selects R_B y_B_conclusionOf y_B_conclusionOf ∈ pTB := pT 353 (by decide +kernel) rfl
abbrev b_B_axiomsOf : ByteArray := prog_2_method_7_code
def y_B_axiomsOf : MethodName := ⟨R_B, "axiomsOf", "(I)J"⟩
abbrev m_B_axiomsOf : pMD := (y_B_axiomsOf, b_B_axiomsOf, 7, (some .long), { frames := 2, cells := 0, slots := 0, locals := 80 })
theorem wc_B_axiomsOf : Cond.code y_B_axiomsOf b_B_axiomsOf 7 (some .long) ∈ pTB := pT 489 (by decide +kernel) rfl
theorem wi_B_axiomsOf : Cond.instanceMethod y_B_axiomsOf ∈ pTB := pT 487 (by decide +kernel) rfl
theorem wl_B_axiomsOf : Cond.selects R_B y_B_axiomsOf y_B_axiomsOf ∈ pTB := pT 488 (by decide +kernel) rfl
abbrev b_B_stepsOf : ByteArray := prog_2_method_8_code
def y_B_stepsOf : MethodName := ⟨R_B, "stepsOf", "(I)I"⟩
abbrev m_B_stepsOf : pMD := (y_B_stepsOf, b_B_stepsOf, 4, (some .int), { frames := 2, cells := 0, slots := 0, locals := 80 })
theorem wc_B_stepsOf : Cond.code y_B_stepsOf b_B_stepsOf 4 (some .int) ∈ pTB := pT 511 (by decide +kernel) rfl
theorem wi_B_stepsOf : Cond.instanceMethod y_B_stepsOf ∈ pTB := pT 509 (by decide +kernel) rfl
theorem wl_B_stepsOf : Cond.selects R_B y_B_stepsOf y_B_stepsOf ∈ pTB := pT 510 (by decide +kernel) rfl
abbrev b_B_add : ByteArray := prog_2_method_9_code
def y_B_add : MethodName := ⟨R_B, "add", "(IIIJI)I"⟩
abbrev m_B_add : pMD := (y_B_add, b_B_add, 7, (some .int), { frames := 1, cells := 0, slots := 0, locals := 40 })
theorem wc_B_add : Cond.code y_B_add b_B_add 7 (some .int) ∈ pTB := pT 428 (by decide +kernel) rfl
theorem wi_B_add : Cond.instanceMethod y_B_add ∈ pTB := pT 426 (by decide +kernel) rfl
theorem wl_B_add : Cond.selects R_B y_B_add y_B_add ∈ pTB := pT 427 (by decide +kernel) rfl
abbrev b_B_firstPremise : ByteArray := prog_2_method_10_code
def y_B_firstPremise : MethodName := ⟨R_B, "firstPremise", "(I)I"⟩
abbrev m_B_firstPremise : pMD := (y_B_firstPremise, b_B_firstPremise, 2, (some .int), { frames := 1, cells := 0, slots := 0, locals := 40 })
theorem wc_B_firstPremise : Cond.code y_B_firstPremise b_B_firstPremise 2 (some .int) ∈ pTB := pT 494 (by decide +kernel) rfl
theorem wi_B_firstPremise : Cond.instanceMethod y_B_firstPremise ∈ pTB := pT 493 (by decide +kernel) rfl
theorem wl_B_firstPremise : Cond.selects R_B y_B_firstPremise y_B_firstPremise ∈ pTB := pT 17 (by decide +kernel) rfl
abbrev b_B_secondPremise : ByteArray := prog_2_method_11_code
def y_B_secondPremise : MethodName := ⟨R_B, "secondPremise", "(I)I"⟩
abbrev m_B_secondPremise : pMD := (y_B_secondPremise, b_B_secondPremise, 2, (some .int), { frames := 1, cells := 0, slots := 0, locals := 40 })
theorem wc_B_secondPremise : Cond.code y_B_secondPremise b_B_secondPremise 2 (some .int) ∈ pTB := pT 502 (by decide +kernel) rfl
theorem wi_B_secondPremise : Cond.instanceMethod y_B_secondPremise ∈ pTB := pT 501 (by decide +kernel) rfl
theorem wl_B_secondPremise : Cond.selects R_B y_B_secondPremise y_B_secondPremise ∈ pTB := pT 18 (by decide +kernel) rfl
abbrev b_B_stepsBefore : ByteArray := prog_2_method_12_code
def y_B_stepsBefore : MethodName := ⟨R_B, "stepsBefore", "(I)I"⟩
abbrev m_B_stepsBefore : pMD := (y_B_stepsBefore, b_B_stepsBefore, 2, (some .int), { frames := 1, cells := 0, slots := 0, locals := 40 })
theorem wc_B_stepsBefore : Cond.code y_B_stepsBefore b_B_stepsBefore 2 (some .int) ∈ pTB := pT 515 (by decide +kernel) rfl
theorem wi_B_stepsBefore : Cond.instanceMethod y_B_stepsBefore ∈ pTB := pT 514 (by decide +kernel) rfl
theorem wl_B_stepsBefore : Cond.selects R_B y_B_stepsBefore y_B_stepsBefore ∈ pTB := pT 19 (by decide +kernel) rfl
abbrev b_B_setOf : ByteArray := prog_2_method_13_code
def y_B_setOf : MethodName := ⟨R_B, "setOf", "(I)J"⟩
abbrev m_B_setOf : pMD := (y_B_setOf, b_B_setOf, 1, (some .long), { frames := 1, cells := 0, slots := 0, locals := 40 })
theorem wc_B_setOf : Cond.code y_B_setOf b_B_setOf 1 (some .long) ∈ pTB := pT 498 (by decide +kernel) rfl
theorem ws_B_setOf : Cond.static y_B_setOf ∈ pTB := pT 497 (by decide +kernel) rfl
abbrev b_D_init : ByteArray := prog_3_method_1_code
def y_D_init : MethodName := ⟨R_D, "<init>", "(LProofKernel$Shelf;)V"⟩
abbrev m_D_init : pMD := (y_D_init, b_D_init, 2, none, { frames := 1, cells := 2, slots := 60, locals := 40 })
theorem wc_D_init : Cond.code y_D_init b_D_init 2 none ∈ pTB := pT 100 (by decide +kernel) rfl
theorem wi_D_init : Cond.instanceMethod y_D_init ∈ pTB := pT 99 (by decide +kernel) rfl
abbrev b_D_clear : ByteArray := prog_3_method_2_code
def y_D_clear : MethodName := ⟨R_D, "clear", "()V"⟩
abbrev m_D_clear : pMD := (y_D_clear, b_D_clear, 1, none, { frames := 1, cells := 0, slots := 0, locals := 40 })
theorem wc_D_clear : Cond.code y_D_clear b_D_clear 1 none ∈ pTB := pT 179 (by decide +kernel) rfl
theorem wi_D_clear : Cond.instanceMethod y_D_clear ∈ pTB := pT 177 (by decide +kernel) rfl
theorem wl_D_clear : Cond.selects R_D y_D_clear y_D_clear ∈ pTB := pT 178 (by decide +kernel) rfl
abbrev b_D_length : ByteArray := prog_3_method_3_code
def y_D_length : MethodName := ⟨R_D, "length", "()I"⟩
abbrev m_D_length : pMD := (y_D_length, b_D_length, 1, (some .int), { frames := 1, cells := 0, slots := 0, locals := 40 })
theorem wc_D_length : Cond.code y_D_length b_D_length 1 (some .int) ∈ pTB := pT 198 (by decide +kernel) rfl
theorem wi_D_length : Cond.instanceMethod y_D_length ∈ pTB := pT 196 (by decide +kernel) rfl
theorem wl_D_length : Cond.selects R_D y_D_length y_D_length ∈ pTB := pT 197 (by decide +kernel) rfl
abbrev b_D_isTooLarge : ByteArray := prog_3_method_4_code
def y_D_isTooLarge : MethodName := ⟨R_D, "isTooLarge", "()Z"⟩
abbrev m_D_isTooLarge : pMD := (y_D_isTooLarge, b_D_isTooLarge, 1, (some .boolean), { frames := 1, cells := 0, slots := 0, locals := 40 })
theorem wc_D_isTooLarge : Cond.code y_D_isTooLarge b_D_isTooLarge 1 (some .boolean) ∈ pTB := pT 194 (by decide +kernel) rfl
theorem wi_D_isTooLarge : Cond.instanceMethod y_D_isTooLarge ∈ pTB := pT 192 (by decide +kernel) rfl
theorem wl_D_isTooLarge : Cond.selects R_D y_D_isTooLarge y_D_isTooLarge ∈ pTB := pT 193 (by decide +kernel) rfl
abbrev b_D_spoil : ByteArray := prog_3_method_5_code
def y_D_spoil : MethodName := ⟨R_D, "spoil", "()V"⟩
abbrev m_D_spoil : pMD := (y_D_spoil, b_D_spoil, 1, none, { frames := 1, cells := 0, slots := 0, locals := 40 })
theorem wc_D_spoil : Cond.code y_D_spoil b_D_spoil 1 none ∈ pTB := pT 314 (by decide +kernel) rfl
theorem wi_D_spoil : Cond.instanceMethod y_D_spoil ∈ pTB := pT 312 (by decide +kernel) rfl
theorem wl_D_spoil : Cond.selects R_D y_D_spoil y_D_spoil ∈ pTB := pT 313 (by decide +kernel) rfl
abbrev b_D_add : ByteArray := prog_3_method_6_code
def y_D_add : MethodName := ⟨R_D, "add", "(I)V"⟩
abbrev m_D_add : pMD := (y_D_add, b_D_add, 2, none, { frames := 1, cells := 0, slots := 0, locals := 40 })
theorem wc_D_add : Cond.code y_D_add b_D_add 2 none ∈ pTB := pT 186 (by decide +kernel) rfl
theorem wi_D_add : Cond.instanceMethod y_D_add ∈ pTB := pT 184 (by decide +kernel) rfl
theorem wl_D_add : Cond.selects R_D y_D_add y_D_add ∈ pTB := pT 185 (by decide +kernel) rfl
abbrev b_D_addPart : ByteArray := prog_3_method_7_code
def y_D_addPart : MethodName := ⟨R_D, "addPart", "(I)V"⟩
abbrev m_D_addPart : pMD := (y_D_addPart, b_D_addPart, 4, none, { frames := 3, cells := 0, slots := 0, locals := 120 })
theorem wc_D_addPart : Cond.code y_D_addPart b_D_addPart 4 none ∈ pTB := pT 268 (by decide +kernel) rfl
theorem wi_D_addPart : Cond.instanceMethod y_D_addPart ∈ pTB := pT 266 (by decide +kernel) rfl
theorem wl_D_addPart : Cond.selects R_D y_D_addPart y_D_addPart ∈ pTB := pT 267 (by decide +kernel) rfl
abbrev b_D_addBinder : ByteArray := prog_3_method_8_code
def y_D_addBinder : MethodName := ⟨R_D, "addBinder", "(IIII)V"⟩
abbrev m_D_addBinder : pMD := (y_D_addBinder, b_D_addBinder, 9, none, { frames := 3, cells := 0, slots := 0, locals := 120 })
theorem wc_D_addBinder : Cond.code y_D_addBinder b_D_addBinder 9 none ∈ pTB := pT 292 (by decide +kernel) rfl
theorem wi_D_addBinder : Cond.instanceMethod y_D_addBinder ∈ pTB := pT 290 (by decide +kernel) rfl
theorem wl_D_addBinder : Cond.selects R_D y_D_addBinder y_D_addBinder ∈ pTB := pT 291 (by decide +kernel) rfl
abbrev b_D_addFilling : ByteArray := prog_3_method_9_code
def y_D_addFilling : MethodName := ⟨R_D, "addFilling", "(II)V"⟩
abbrev m_D_addFilling : pMD := (y_D_addFilling, b_D_addFilling, 7, none, { frames := 4, cells := 0, slots := 0, locals := 160 })
theorem wc_D_addFilling : Cond.code y_D_addFilling b_D_addFilling 7 none ∈ pTB := pT 418 (by decide +kernel) rfl
theorem wi_D_addFilling : Cond.instanceMethod y_D_addFilling ∈ pTB := pT 416 (by decide +kernel) rfl
theorem wl_D_addFilling : Cond.selects R_D y_D_addFilling y_D_addFilling ∈ pTB := pT 417 (by decide +kernel) rfl
abbrev b_D_addReplacing : ByteArray := prog_3_method_10_code
def y_D_addReplacing : MethodName := ⟨R_D, "addReplacing", "(III)V"⟩
abbrev m_D_addReplacing : pMD := (y_D_addReplacing, b_D_addReplacing, 6, none, { frames := 4, cells := 0, slots := 0, locals := 160 })
theorem wc_D_addReplacing : Cond.code y_D_addReplacing b_D_addReplacing 6 none ∈ pTB := pT 403 (by decide +kernel) rfl
theorem wi_D_addReplacing : Cond.instanceMethod y_D_addReplacing ∈ pTB := pT 401 (by decide +kernel) rfl
theorem wl_D_addReplacing : Cond.selects R_D y_D_addReplacing y_D_addReplacing ∈ pTB := pT 402 (by decide +kernel) rfl
abbrev b_D_isAt : ByteArray := prog_3_method_11_code
def y_D_isAt : MethodName := ⟨R_D, "isAt", "(I)Z"⟩
abbrev m_D_isAt : pMD := (y_D_isAt, b_D_isAt, 3, (some .boolean), { frames := 2, cells := 0, slots := 0, locals := 80 })
theorem wc_D_isAt : Cond.code y_D_isAt b_D_isAt 3 (some .boolean) ∈ pTB := pT 206 (by decide +kernel) rfl
theorem wi_D_isAt : Cond.instanceMethod y_D_isAt ∈ pTB := pT 204 (by decide +kernel) rfl
theorem wl_D_isAt : Cond.selects R_D y_D_isAt y_D_isAt ∈ pTB := pT 205 (by decide +kernel) rfl
abbrev b_D_copyTo : ByteArray := prog_3_method_12_code
def y_D_copyTo : MethodName := ⟨R_D, "copyTo", "([II)V"⟩
abbrev m_D_copyTo : pMD := (y_D_copyTo, b_D_copyTo, 3, none, { frames := 1, cells := 0, slots := 0, locals := 40 })
theorem wc_D_copyTo : Cond.code y_D_copyTo b_D_copyTo 3 none ∈ pTB := pT 214 (by decide +kernel) rfl
theorem wi_D_copyTo : Cond.instanceMethod y_D_copyTo ∈ pTB := pT 212 (by decide +kernel) rfl
theorem wl_D_copyTo : Cond.selects R_D y_D_copyTo y_D_copyTo ∈ pTB := pT 213 (by decide +kernel) rfl
abbrev b_D_beginWalk : ByteArray := prog_3_method_13_code
def y_D_beginWalk : MethodName := ⟨R_D, "beginWalk", "()V"⟩
abbrev m_D_beginWalk : pMD := (y_D_beginWalk, b_D_beginWalk, 1, none, { frames := 1, cells := 0, slots := 0, locals := 40 })
theorem wc_D_beginWalk : Cond.code y_D_beginWalk b_D_beginWalk 1 none ∈ pTB := pT 298 (by decide +kernel) rfl
theorem wi_D_beginWalk : Cond.instanceMethod y_D_beginWalk ∈ pTB := pT 297 (by decide +kernel) rfl
theorem wl_D_beginWalk : Cond.selects R_D y_D_beginWalk y_D_beginWalk ∈ pTB := pT 4 (by decide +kernel) rfl
abbrev b_D_walkOver : ByteArray := prog_3_method_14_code
def y_D_walkOver : MethodName := ⟨R_D, "walkOver", "(I)I"⟩
abbrev m_D_walkOver : pMD := (y_D_walkOver, b_D_walkOver, 5, (some .int), { frames := 2, cells := 0, slots := 0, locals := 80 })
theorem wc_D_walkOver : Cond.code y_D_walkOver b_D_walkOver 5 (some .int) ∈ pTB := pT 302 (by decide +kernel) rfl
theorem wi_D_walkOver : Cond.instanceMethod y_D_walkOver ∈ pTB := pT 301 (by decide +kernel) rfl
theorem wl_D_walkOver : Cond.selects R_D y_D_walkOver y_D_walkOver ∈ pTB := pT 5 (by decide +kernel) rfl
abbrev b_S_init : ByteArray := prog_4_method_1_code
def y_S_init : MethodName := ⟨R_S, "<init>", "()V"⟩
abbrev m_S_init : pMD := (y_S_init, b_S_init, 1, none, { frames := 1, cells := 2, slots := 1860, locals := 40 })
theorem wc_S_init : Cond.code y_S_init b_S_init 1 none ∈ pTB := pT 84 (by decide +kernel) rfl
theorem wi_S_init : Cond.instanceMethod y_S_init ∈ pTB := pT 83 (by decide +kernel) rfl
abbrev b_S_count : ByteArray := prog_4_method_2_code
def y_S_count : MethodName := ⟨R_S, "count", "()I"⟩
abbrev m_S_count : pMD := (y_S_count, b_S_count, 1, (some .int), { frames := 1, cells := 0, slots := 0, locals := 40 })
theorem wc_S_count : Cond.code y_S_count b_S_count 1 (some .int) ∈ pTB := pT 229 (by decide +kernel) rfl
theorem wi_S_count : Cond.instanceMethod y_S_count ∈ pTB := pT 227 (by decide +kernel) rfl
theorem wl_S_count : Cond.selects R_S y_S_count y_S_count ∈ pTB := pT 228 (by decide +kernel) rfl
abbrev b_S_has : ByteArray := prog_4_method_3_code
def y_S_has : MethodName := ⟨R_S, "has", "(I)Z"⟩
abbrev m_S_has : pMD := (y_S_has, b_S_has, 2, (some .boolean), { frames := 1, cells := 0, slots := 0, locals := 40 })
theorem wc_S_has : Cond.code y_S_has b_S_has 2 (some .boolean) ∈ pTB := pT 248 (by decide +kernel) rfl
theorem wi_S_has : Cond.instanceMethod y_S_has ∈ pTB := pT 246 (by decide +kernel) rfl
theorem wl_S_has : Cond.selects R_S y_S_has y_S_has ∈ pTB := pT 247 (by decide +kernel) rfl
abbrev b_S_start : ByteArray := prog_4_method_4_code
def y_S_start : MethodName := ⟨R_S, "start", "(I)I"⟩
abbrev m_S_start : pMD := (y_S_start, b_S_start, 2, (some .int), { frames := 1, cells := 0, slots := 0, locals := 40 })
theorem wc_S_start : Cond.code y_S_start b_S_start 2 (some .int) ∈ pTB := pT 202 (by decide +kernel) rfl
theorem wi_S_start : Cond.instanceMethod y_S_start ∈ pTB := pT 200 (by decide +kernel) rfl
theorem wl_S_start : Cond.selects R_S y_S_start y_S_start ∈ pTB := pT 201 (by decide +kernel) rfl
abbrev b_S_length : ByteArray := prog_4_method_5_code
def y_S_length : MethodName := ⟨R_S, "length", "(I)I"⟩
abbrev m_S_length : pMD := (y_S_length, b_S_length, 2, (some .int), { frames := 1, cells := 0, slots := 0, locals := 40 })
theorem wc_S_length : Cond.code y_S_length b_S_length 2 (some .int) ∈ pTB := pT 452 (by decide +kernel) rfl
theorem wi_S_length : Cond.instanceMethod y_S_length ∈ pTB := pT 450 (by decide +kernel) rfl
theorem wl_S_length : Cond.selects R_S y_S_length y_S_length ∈ pTB := pT 451 (by decide +kernel) rfl
abbrev b_S_token : ByteArray := prog_4_method_6_code
def y_S_token : MethodName := ⟨R_S, "token", "(I)I"⟩
abbrev m_S_token : pMD := (y_S_token, b_S_token, 2, (some .int), { frames := 1, cells := 0, slots := 0, locals := 40 })
theorem wc_S_token : Cond.code y_S_token b_S_token 2 (some .int) ∈ pTB := pT 210 (by decide +kernel) rfl
theorem wi_S_token : Cond.instanceMethod y_S_token ∈ pTB := pT 208 (by decide +kernel) rfl
theorem wl_S_token : Cond.selects R_S y_S_token y_S_token ∈ pTB := pT 209 (by decide +kernel) rfl
abbrev b_S_firstPart : ByteArray := prog_4_method_7_code
def y_S_firstPart : MethodName := ⟨R_S, "firstPart", "(I)I"⟩
abbrev m_S_firstPart : pMD := (y_S_firstPart, b_S_firstPart, 2, (some .int), { frames := 1, cells := 0, slots := 0, locals := 40 })
theorem wc_S_firstPart : Cond.code y_S_firstPart b_S_firstPart 2 (some .int) ∈ pTB := pT 358 (by decide +kernel) rfl
theorem wi_S_firstPart : Cond.instanceMethod y_S_firstPart ∈ pTB := pT 356 (by decide +kernel) rfl
theorem wl_S_firstPart : Cond.selects R_S y_S_firstPart y_S_firstPart ∈ pTB := pT 357 (by decide +kernel) rfl
abbrev b_S_secondPart : ByteArray := prog_4_method_8_code
def y_S_secondPart : MethodName := ⟨R_S, "secondPart", "(I)I"⟩
abbrev m_S_secondPart : pMD := (y_S_secondPart, b_S_secondPart, 2, (some .int), { frames := 3, cells := 0, slots := 0, locals := 120 })
theorem wc_S_secondPart : Cond.code y_S_secondPart b_S_secondPart 2 (some .int) ∈ pTB := pT 368 (by decide +kernel) rfl
theorem wi_S_secondPart : Cond.instanceMethod y_S_secondPart ∈ pTB := pT 366 (by decide +kernel) rfl
theorem wl_S_secondPart : Cond.selects R_S y_S_secondPart y_S_secondPart ∈ pTB := pT 367 (by decide +kernel) rfl
abbrev b_S_behind : ByteArray := prog_4_method_9_code
def y_S_behind : MethodName := ⟨R_S, "behind", "(I)I"⟩
abbrev m_S_behind : pMD := (y_S_behind, b_S_behind, 4, (some .int), { frames := 2, cells := 0, slots := 0, locals := 80 })
theorem wc_S_behind : Cond.code y_S_behind b_S_behind 4 (some .int) ∈ pTB := pT 272 (by decide +kernel) rfl
theorem wi_S_behind : Cond.instanceMethod y_S_behind ∈ pTB := pT 270 (by decide +kernel) rfl
theorem wl_S_behind : Cond.selects R_S y_S_behind y_S_behind ∈ pTB := pT 271 (by decide +kernel) rfl
abbrev b_S_same : ByteArray := prog_4_method_10_code
def y_S_same : MethodName := ⟨R_S, "same", "(II)Z"⟩
abbrev m_S_same : pMD := (y_S_same, b_S_same, 5, (some .boolean), { frames := 3, cells := 0, slots := 0, locals := 120 })
theorem wc_S_same : Cond.code y_S_same b_S_same 5 (some .boolean) ∈ pTB := pT 362 (by decide +kernel) rfl
theorem wi_S_same : Cond.instanceMethod y_S_same ∈ pTB := pT 360 (by decide +kernel) rfl
theorem wl_S_same : Cond.selects R_S y_S_same y_S_same ∈ pTB := pT 361 (by decide +kernel) rfl
abbrev b_S_holds : ByteArray := prog_4_method_11_code
def y_S_holds : MethodName := ⟨R_S, "holds", "(II)Z"⟩
abbrev m_S_holds : pMD := (y_S_holds, b_S_holds, 5, (some .boolean), { frames := 2, cells := 0, slots := 0, locals := 80 })
theorem wc_S_holds : Cond.code y_S_holds b_S_holds 5 (some .boolean) ∈ pTB := pT 383 (by decide +kernel) rfl
theorem wi_S_holds : Cond.instanceMethod y_S_holds ∈ pTB := pT 381 (by decide +kernel) rfl
theorem wl_S_holds : Cond.selects R_S y_S_holds y_S_holds ∈ pTB := pT 382 (by decide +kernel) rfl
abbrev b_S_keep : ByteArray := prog_4_method_12_code
def y_S_keep : MethodName := ⟨R_S, "keep", "(LProofKernel$Draft;)I"⟩
abbrev m_S_keep : pMD := (y_S_keep, b_S_keep, 3, (some .int), { frames := 3, cells := 0, slots := 0, locals := 120 })
theorem wc_S_keep : Cond.code y_S_keep b_S_keep 3 (some .int) ∈ pTB := pT 190 (by decide +kernel) rfl
theorem wi_S_keep : Cond.instanceMethod y_S_keep ∈ pTB := pT 188 (by decide +kernel) rfl
theorem wl_S_keep : Cond.selects R_S y_S_keep y_S_keep ∈ pTB := pT 189 (by decide +kernel) rfl
abbrev b_S_cutTo : ByteArray := prog_4_method_13_code
def y_S_cutTo : MethodName := ⟨R_S, "cutTo", "(I)V"⟩
abbrev m_S_cutTo : pMD := (y_S_cutTo, b_S_cutTo, 2, none, { frames := 1, cells := 0, slots := 0, locals := 40 })
theorem wc_S_cutTo : Cond.code y_S_cutTo b_S_cutTo 2 none ∈ pTB := pT 424 (by decide +kernel) rfl
theorem wi_S_cutTo : Cond.instanceMethod y_S_cutTo ∈ pTB := pT 422 (by decide +kernel) rfl
theorem wl_S_cutTo : Cond.selects R_S y_S_cutTo y_S_cutTo ∈ pTB := pT 423 (by decide +kernel) rfl
abbrev b_O_of : ByteArray := prog_5_method_2_code
def y_O_of : MethodName := ⟨R_O, "of", "(III)I"⟩
abbrev m_O_of : pMD := (y_O_of, b_O_of, 3, (some .int), { frames := 1, cells := 0, slots := 0, locals := 40 })
theorem wc_O_of : Cond.code y_O_of b_O_of 3 (some .int) ∈ pTB := pT 182 (by decide +kernel) rfl
theorem ws_O_of : Cond.static y_O_of ∈ pTB := pT 181 (by decide +kernel) rfl
abbrev b_O_tag : ByteArray := prog_5_method_3_code
def y_O_tag : MethodName := ⟨R_O, "tag", "(I)I"⟩
abbrev m_O_tag : pMD := (y_O_tag, b_O_tag, 1, (some .int), { frames := 1, cells := 0, slots := 0, locals := 40 })
theorem wc_O_tag : Cond.code y_O_tag b_O_tag 1 (some .int) ∈ pTB := pT 234 (by decide +kernel) rfl
theorem ws_O_tag : Cond.static y_O_tag ∈ pTB := pT 233 (by decide +kernel) rfl
abbrev b_O_info : ByteArray := prog_5_method_4_code
def y_O_info : MethodName := ⟨R_O, "info", "(I)I"⟩
abbrev m_O_info : pMD := (y_O_info, b_O_info, 1, (some .int), { frames := 1, cells := 0, slots := 0, locals := 40 })
theorem wc_O_info : Cond.code y_O_info b_O_info 1 (some .int) ∈ pTB := pT 237 (by decide +kernel) rfl
theorem ws_O_info : Cond.static y_O_info ∈ pTB := pT 236 (by decide +kernel) rfl
abbrev b_O_type : ByteArray := prog_5_method_5_code
def y_O_type : MethodName := ⟨R_O, "type", "(I)I"⟩
abbrev m_O_type : pMD := (y_O_type, b_O_type, 1, (some .int), { frames := 1, cells := 0, slots := 0, locals := 40 })
theorem wc_O_type : Cond.code y_O_type b_O_type 1 (some .int) ∈ pTB := pT 240 (by decide +kernel) rfl
theorem ws_O_type : Cond.static y_O_type ∈ pTB := pT 239 (by decide +kernel) rfl
abbrev b_O_binds : ByteArray := prog_5_method_6_code
def y_O_binds : MethodName := ⟨R_O, "binds", "(I)Z"⟩
abbrev m_O_binds : pMD := (y_O_binds, b_O_binds, 2, (some .boolean), { frames := 1, cells := 0, slots := 0, locals := 40 })
theorem wc_O_binds : Cond.code y_O_binds b_O_binds 2 (some .boolean) ∈ pTB := pT 305 (by decide +kernel) rfl
theorem ws_O_binds : Cond.static y_O_binds ∈ pTB := pT 304 (by decide +kernel) rfl
abbrev b_O_parts : ByteArray := prog_5_method_7_code
def y_O_parts : MethodName := ⟨R_O, "parts", "(I)I"⟩
abbrev m_O_parts : pMD := (y_O_parts, b_O_parts, 2, (some .int), { frames := 1, cells := 0, slots := 0, locals := 40 })
theorem wc_O_parts : Cond.code y_O_parts b_O_parts 2 (some .int) ∈ pTB := pT 275 (by decide +kernel) rfl
theorem ws_O_parts : Cond.static y_O_parts ∈ pTB := pT 274 (by decide +kernel) rfl
abbrev b_O_letter : ByteArray := prog_5_method_8_code
def y_O_letter : MethodName := ⟨R_O, "letter", "(I)I"⟩
abbrev m_O_letter : pMD := (y_O_letter, b_O_letter, 1, (some .int), { frames := 2, cells := 0, slots := 0, locals := 80 })
theorem wc_O_letter : Cond.code y_O_letter b_O_letter 1 (some .int) ∈ pTB := pT 463 (by decide +kernel) rfl
theorem ws_O_letter : Cond.static y_O_letter ∈ pTB := pT 462 (by decide +kernel) rfl
abbrev b_O_showsType : ByteArray := prog_5_method_9_code
def y_O_showsType : MethodName := ⟨R_O, "showsType", "(I)Z"⟩
abbrev m_O_showsType : pMD := (y_O_showsType, b_O_showsType, 1, (some .boolean), { frames := 2, cells := 0, slots := 0, locals := 80 })
theorem wc_O_showsType : Cond.code y_O_showsType b_O_showsType 1 (some .boolean) ∈ pTB := pT 468 (by decide +kernel) rfl
theorem ws_O_showsType : Cond.static y_O_showsType ∈ pTB := pT 467 (by decide +kernel) rfl
abbrev b_O_typeLetter : ByteArray := prog_5_method_10_code
def y_O_typeLetter : MethodName := ⟨R_O, "typeLetter", "(I)I"⟩
abbrev m_O_typeLetter : pMD := (y_O_typeLetter, b_O_typeLetter, 1, (some .int), { frames := 2, cells := 0, slots := 0, locals := 80 })
theorem wc_O_typeLetter : Cond.code y_O_typeLetter b_O_typeLetter 1 (some .int) ∈ pTB := pT 472 (by decide +kernel) rfl
theorem ws_O_typeLetter : Cond.static y_O_typeLetter ∈ pTB := pT 471 (by decide +kernel) rfl
abbrev b_T_init : ByteArray := prog_6_method_1_code
def y_T_init : MethodName := ⟨R_T, "<init>", "()V"⟩
abbrev m_T_init : pMD := (y_T_init, b_T_init, 2, none, { frames := 1, cells := 2, slots := 32, locals := 40 })
theorem wc_T_init : Cond.code y_T_init b_T_init 2 none ∈ pTB := pT 67 (by decide +kernel) rfl
theorem wi_T_init : Cond.instanceMethod y_T_init ∈ pTB := pT 66 (by decide +kernel) rfl
abbrev b_T_count : ByteArray := prog_6_method_2_code
def y_T_count : MethodName := ⟨R_T, "count", "()I"⟩
abbrev m_T_count : pMD := (y_T_count, b_T_count, 1, (some .int), { frames := 1, cells := 0, slots := 0, locals := 40 })
theorem wc_T_count : Cond.code y_T_count b_T_count 1 (some .int) ∈ pTB := pT 288 (by decide +kernel) rfl
theorem wi_T_count : Cond.instanceMethod y_T_count ∈ pTB := pT 286 (by decide +kernel) rfl
theorem wl_T_count : Cond.selects R_T y_T_count y_T_count ∈ pTB := pT 287 (by decide +kernel) rfl
abbrev b_T_has : ByteArray := prog_6_method_3_code
def y_T_has : MethodName := ⟨R_T, "has", "(I)Z"⟩
abbrev m_T_has : pMD := (y_T_has, b_T_has, 2, (some .boolean), { frames := 1, cells := 0, slots := 0, locals := 40 })
theorem wc_T_has : Cond.code y_T_has b_T_has 2 (some .boolean) ∈ pTB := pT 167 (by decide +kernel) rfl
theorem wi_T_has : Cond.instanceMethod y_T_has ∈ pTB := pT 165 (by decide +kernel) rfl
theorem wl_T_has : Cond.selects R_T y_T_has y_T_has ∈ pTB := pT 166 (by decide +kernel) rfl
abbrev b_T_takes : ByteArray := prog_6_method_4_code
def y_T_takes : MethodName := ⟨R_T, "takes", "(II)Z"⟩
abbrev m_T_takes : pMD := (y_T_takes, b_T_takes, 3, (some .boolean), { frames := 1, cells := 0, slots := 0, locals := 40 })
theorem wc_T_takes : Cond.code y_T_takes b_T_takes 3 (some .boolean) ∈ pTB := pT 256 (by decide +kernel) rfl
theorem wi_T_takes : Cond.instanceMethod y_T_takes ∈ pTB := pT 254 (by decide +kernel) rfl
theorem wl_T_takes : Cond.selects R_T y_T_takes y_T_takes ∈ pTB := pT 255 (by decide +kernel) rfl
abbrev b_T_result : ByteArray := prog_6_method_5_code
def y_T_result : MethodName := ⟨R_T, "result", "(I)I"⟩
abbrev m_T_result : pMD := (y_T_result, b_T_result, 2, (some .int), { frames := 1, cells := 0, slots := 0, locals := 40 })
theorem wc_T_result : Cond.code y_T_result b_T_result 2 (some .int) ∈ pTB := pT 264 (by decide +kernel) rfl
theorem wi_T_result : Cond.instanceMethod y_T_result ∈ pTB := pT 262 (by decide +kernel) rfl
theorem wl_T_result : Cond.selects R_T y_T_result y_T_result ∈ pTB := pT 263 (by decide +kernel) rfl
abbrev b_T_numberOf : ByteArray := prog_6_method_6_code
def y_T_numberOf : MethodName := ⟨R_T, "numberOf", "(II)I"⟩
abbrev m_T_numberOf : pMD := (y_T_numberOf, b_T_numberOf, 4, (some .int), { frames := 1, cells := 0, slots := 0, locals := 40 })
theorem wc_T_numberOf : Cond.code y_T_numberOf b_T_numberOf 4 (some .int) ∈ pTB := pT 171 (by decide +kernel) rfl
theorem wi_T_numberOf : Cond.instanceMethod y_T_numberOf ∈ pTB := pT 169 (by decide +kernel) rfl
theorem wl_T_numberOf : Cond.selects R_T y_T_numberOf y_T_numberOf ∈ pTB := pT 170 (by decide +kernel) rfl
abbrev b_T_cutTo : ByteArray := prog_6_method_7_code
def y_T_cutTo : MethodName := ⟨R_T, "cutTo", "(I)V"⟩
abbrev m_T_cutTo : pMD := (y_T_cutTo, b_T_cutTo, 2, none, { frames := 1, cells := 0, slots := 0, locals := 40 })
theorem wc_T_cutTo : Cond.code y_T_cutTo b_T_cutTo 2 none ∈ pTB := pT 318 (by decide +kernel) rfl
theorem wi_T_cutTo : Cond.instanceMethod y_T_cutTo ∈ pTB := pT 316 (by decide +kernel) rfl
theorem wl_T_cutTo : Cond.selects R_T y_T_cutTo y_T_cutTo ∈ pTB := pT 317 (by decide +kernel) rfl
theorem lc_L_7 : Cond.classLink R_L 7 R_K ∈ pTB := pT 55 (by decide +kernel) rfl
theorem lm_L_9 : Cond.methodLink R_L 9 y_K_init ∈ pTB := pT 57 (by decide +kernel) rfl
theorem lm_K_1 : Cond.methodLink R_K 1 objectInit ∈ pTB := pT 60 (by decide +kernel) rfl
theorem lc_K_7 : Cond.classLink R_K 7 R_T ∈ pTB := pT 63 (by decide +kernel) rfl
theorem lm_K_9 : Cond.methodLink R_K 9 y_T_init ∈ pTB := pT 65 (by decide +kernel) rfl
theorem lm_T_3 : Cond.methodLink R_T 3 objectInit ∈ pTB := pT 68 (by decide +kernel) rfl
theorem lf_T_9 : Cond.fieldLink R_T 9 "ProofKernel$Types" "from" "[I" ∈ pTB := pT 69 (by decide +kernel) rfl
theorem lf_T_15 : Cond.fieldLink R_T 15 "ProofKernel$Types" "to" "[I" ∈ pTB := pT 70 (by decide +kernel) rfl
theorem lf_T_18 : Cond.fieldLink R_T 18 "ProofKernel$Types" "count" "I" ∈ pTB := pT 71 (by decide +kernel) rfl
theorem lc_K_16 : Cond.classLink R_K 16 R_S ∈ pTB := pT 80 (by decide +kernel) rfl
theorem nm_K_18 : Cond.methodLinkNest R_K 18 y_S_init "ProofKernel" ∈ lw_tbl := List.mem_of_getElem? (i := 82) (by decide +kernel)
theorem lm_S_3 : Cond.methodLink R_S 3 objectInit ∈ pTB := pT 85 (by decide +kernel) rfl
theorem lf_S_9 : Cond.fieldLink R_S 9 "ProofKernel$Shelf" "tokens" "[I" ∈ pTB := pT 86 (by decide +kernel) rfl
theorem lf_S_15 : Cond.fieldLink R_S 15 "ProofKernel$Shelf" "lengths" "[I" ∈ pTB := pT 87 (by decide +kernel) rfl
theorem lf_S_18 : Cond.fieldLink R_S 18 "ProofKernel$Shelf" "count" "I" ∈ pTB := pT 88 (by decide +kernel) rfl
theorem lc_K_23 : Cond.classLink R_K 23 R_D ∈ pTB := pT 96 (by decide +kernel) rfl
theorem lm_K_25 : Cond.methodLink R_K 25 y_D_init ∈ pTB := pT 98 (by decide +kernel) rfl
theorem lm_D_3 : Cond.methodLink R_D 3 objectInit ∈ pTB := pT 101 (by decide +kernel) rfl
theorem lf_D_18 : Cond.fieldLink R_D 18 "ProofKernel$Draft" "shelf" "LProofKernel$Shelf;" ∈ pTB := pT 102 (by decide +kernel) rfl
theorem lf_D_9 : Cond.fieldLink R_D 9 "ProofKernel$Draft" "row" "[I" ∈ pTB := pT 103 (by decide +kernel) rfl
theorem lf_D_22 : Cond.fieldLink R_D 22 "ProofKernel$Draft" "length" "I" ∈ pTB := pT 104 (by decide +kernel) rfl
theorem lf_D_15 : Cond.fieldLink R_D 15 "ProofKernel$Draft" "depths" "[I" ∈ pTB := pT 105 (by decide +kernel) rfl
theorem lf_D_69 : Cond.fieldLink R_D 69 "ProofKernel$Draft" "waiting" "I" ∈ pTB := pT 106 (by decide +kernel) rfl
theorem lc_K_32 : Cond.classLink R_K 32 R_B ∈ pTB := pT 118 (by decide +kernel) rfl
theorem nm_K_34 : Cond.methodLinkNest R_K 34 y_B_init "ProofKernel" ∈ lw_tbl := List.mem_of_getElem? (i := 120) (by decide +kernel)
theorem lm_B_3 : Cond.methodLink R_B 3 objectInit ∈ pTB := pT 123 (by decide +kernel) rfl
theorem lf_B_9 : Cond.fieldLink R_B 9 "ProofKernel$Book" "assumed" "[J" ∈ pTB := pT 124 (by decide +kernel) rfl
theorem lf_B_15 : Cond.fieldLink R_B 15 "ProofKernel$Book" "conclusions" "[I" ∈ pTB := pT 125 (by decide +kernel) rfl
theorem lf_B_19 : Cond.fieldLink R_B 19 "ProofKernel$Book" "rules" "[I" ∈ pTB := pT 126 (by decide +kernel) rfl
theorem lf_B_22 : Cond.fieldLink R_B 22 "ProofKernel$Book" "namedByX" "[I" ∈ pTB := pT 127 (by decide +kernel) rfl
theorem lf_B_25 : Cond.fieldLink R_B 25 "ProofKernel$Book" "namedByY" "[I" ∈ pTB := pT 128 (by decide +kernel) rfl
theorem lf_B_31 : Cond.fieldLink R_B 31 "ProofKernel$Book" "count" "I" ∈ pTB := pT 129 (by decide +kernel) rfl
theorem lf_B_28 : Cond.fieldLink R_B 28 "ProofKernel$Book" "stepsUpTo" "[I" ∈ pTB := pT 130 (by decide +kernel) rfl
theorem lf_K_10 : Cond.fieldLink R_K 10 "ProofKernel" "types" "LProofKernel$Types;" ∈ pTB := pT 147 (by decide +kernel) rfl
theorem lf_K_19 : Cond.fieldLink R_K 19 "ProofKernel" "shelf" "LProofKernel$Shelf;" ∈ pTB := pT 148 (by decide +kernel) rfl
theorem lf_K_28 : Cond.fieldLink R_K 28 "ProofKernel" "draft" "LProofKernel$Draft;" ∈ pTB := pT 149 (by decide +kernel) rfl
theorem lf_K_35 : Cond.fieldLink R_K 35 "ProofKernel" "book" "LProofKernel$Book;" ∈ pTB := pT 150 (by decide +kernel) rfl
theorem lm_L_13 : Cond.methodLink R_L 13 y_K_arrow ∈ pTB := pT 160 (by decide +kernel) rfl
theorem lm_K_39 : Cond.methodLink R_K 39 y_T_has ∈ pTB := pT 164 (by decide +kernel) rfl
theorem lm_K_43 : Cond.methodLink R_K 43 y_T_numberOf ∈ pTB := pT 168 (by decide +kernel) rfl
theorem lm_L_18 : Cond.methodLink R_L 18 y_K_variable ∈ pTB := pT 172 (by decide +kernel) rfl
theorem lm_K_47 : Cond.methodLink R_K 47 y_D_clear ∈ pTB := pT 176 (by decide +kernel) rfl
theorem lm_K_50 : Cond.methodLink R_K 50 y_O_of ∈ pTB := pT 180 (by decide +kernel) rfl
theorem lm_K_56 : Cond.methodLink R_K 56 y_D_add ∈ pTB := pT 183 (by decide +kernel) rfl
theorem lm_K_60 : Cond.methodLink R_K 60 y_S_keep ∈ pTB := pT 187 (by decide +kernel) rfl
theorem lm_S_37 : Cond.methodLink R_S 37 y_D_isTooLarge ∈ pTB := pT 191 (by decide +kernel) rfl
theorem lm_S_43 : Cond.methodLink R_S 43 y_D_length ∈ pTB := pT 195 (by decide +kernel) rfl
theorem lm_S_34 : Cond.methodLink R_S 34 y_S_start ∈ pTB := pT 199 (by decide +kernel) rfl
theorem lm_S_47 : Cond.methodLink R_S 47 y_D_isAt ∈ pTB := pT 203 (by decide +kernel) rfl
theorem lm_D_32 : Cond.methodLink R_D 32 y_S_token ∈ pTB := pT 207 (by decide +kernel) rfl
theorem lm_S_51 : Cond.methodLink R_S 51 y_D_copyTo ∈ pTB := pT 211 (by decide +kernel) rfl
theorem lm_D_63 : Cond.methodLink R_D 63 arraycopyName ∈ pTB := pT 215 (by decide +kernel) rfl
theorem lm_L_22 : Cond.methodLink R_L 22 y_K_constant ∈ pTB := pT 218 (by decide +kernel) rfl
theorem lm_K_64 : Cond.methodLink R_K 64 y_K_declaredType ∈ pTB := pT 222 (by decide +kernel) rfl
theorem lm_K_131 : Cond.methodLink R_K 131 y_S_count ∈ pTB := pT 226 (by decide +kernel) rfl
theorem lm_K_69 : Cond.methodLink R_K 69 y_S_start ∈ pTB := pT 230 (by decide +kernel) rfl
theorem lm_K_90 : Cond.methodLink R_K 90 y_S_token ∈ pTB := pT 231 (by decide +kernel) rfl
theorem lm_K_167 : Cond.methodLink R_K 167 y_O_tag ∈ pTB := pT 232 (by decide +kernel) rfl
theorem lm_K_170 : Cond.methodLink R_K 170 y_O_info ∈ pTB := pT 235 (by decide +kernel) rfl
theorem lm_K_164 : Cond.methodLink R_K 164 y_O_type ∈ pTB := pT 238 (by decide +kernel) rfl
theorem lm_L_26 : Cond.methodLink R_L 26 y_K_apply ∈ pTB := pT 241 (by decide +kernel) rfl
theorem lm_K_68 : Cond.methodLink R_K 68 y_S_has ∈ pTB := pT 245 (by decide +kernel) rfl
theorem lm_K_72 : Cond.methodLink R_K 72 y_K_typeAt ∈ pTB := pT 249 (by decide +kernel) rfl
theorem lm_K_75 : Cond.methodLink R_K 75 y_T_takes ∈ pTB := pT 253 (by decide +kernel) rfl
theorem lm_K_79 : Cond.methodLink R_K 79 y_K_draftApplication ∈ pTB := pT 257 (by decide +kernel) rfl
theorem lm_K_173 : Cond.methodLink R_K 173 y_T_result ∈ pTB := pT 261 (by decide +kernel) rfl
theorem lm_K_176 : Cond.methodLink R_K 176 y_D_addPart ∈ pTB := pT 265 (by decide +kernel) rfl
theorem lm_D_26 : Cond.methodLink R_D 26 y_S_behind ∈ pTB := pT 269 (by decide +kernel) rfl
theorem lm_S_26 : Cond.methodLink R_S 26 y_O_parts ∈ pTB := pT 273 (by decide +kernel) rfl
theorem lm_D_35 : Cond.methodLink R_D 35 y_D_add ∈ pTB := pT 276 (by decide +kernel) rfl
theorem lm_L_30 : Cond.methodLink R_L 30 y_K_bind ∈ pTB := pT 277 (by decide +kernel) rfl
theorem lm_K_83 : Cond.methodLink R_K 83 y_K_isA ∈ pTB := pT 281 (by decide +kernel) rfl
theorem lm_K_86 : Cond.methodLink R_K 86 y_T_count ∈ pTB := pT 285 (by decide +kernel) rfl
theorem lm_K_93 : Cond.methodLink R_K 93 y_D_addBinder ∈ pTB := pT 289 (by decide +kernel) rfl
theorem lm_D_39 : Cond.methodLink R_D 39 y_O_type ∈ pTB := pT 293 (by decide +kernel) rfl
theorem lm_D_44 : Cond.methodLink R_D 44 y_O_of ∈ pTB := pT 294 (by decide +kernel) rfl
theorem lm_D_48 : Cond.methodLink R_D 48 y_D_beginWalk ∈ pTB := pT 295 (by decide +kernel) rfl
theorem lm_D_51 : Cond.methodLink R_D 51 y_D_walkOver ∈ pTB := pT 299 (by decide +kernel) rfl
theorem lm_D_72 : Cond.methodLink R_D 72 y_O_binds ∈ pTB := pT 303 (by decide +kernel) rfl
theorem lm_D_76 : Cond.methodLink R_D 76 y_O_parts ∈ pTB := pT 306 (by decide +kernel) rfl
theorem lm_K_97 : Cond.methodLink R_K 97 y_K_draftAbstraction ∈ pTB := pT 307 (by decide +kernel) rfl
theorem lm_K_179 : Cond.methodLink R_K 179 y_D_spoil ∈ pTB := pT 311 (by decide +kernel) rfl
theorem lm_K_100 : Cond.methodLink R_K 100 y_T_cutTo ∈ pTB := pT 315 (by decide +kernel) rfl
theorem lm_L_35 : Cond.methodLink R_L 35 y_K_join ∈ pTB := pT 319 (by decide +kernel) rfl
theorem lm_K_103 : Cond.methodLink R_K 103 y_K_draftJoint ∈ pTB := pT 323 (by decide +kernel) rfl
theorem lm_L_39 : Cond.methodLink R_L 39 y_K_rule ∈ pTB := pT 327 (by decide +kernel) rfl
theorem lf_K_107 : Cond.fieldLink R_K 107 "ProofKernel" "NAMED_BY_X" "[I" ∈ pTB := pT 331 (by decide +kernel) rfl
theorem lm_K_111 : Cond.methodLink R_K 111 y_K_isThere ∈ pTB := pT 333 (by decide +kernel) rfl
theorem lm_K_148 : Cond.methodLink R_K 148 y_B_has ∈ pTB := pT 337 (by decide +kernel) rfl
theorem lf_K_114 : Cond.fieldLink R_K 114 "ProofKernel" "NAMED_BY_Y" "[I" ∈ pTB := pT 341 (by decide +kernel) rfl
theorem lm_K_117 : Cond.methodLink R_K 117 y_K_isAsTheRuleSays ∈ pTB := pT 343 (by decide +kernel) rfl
theorem lm_K_182 : Cond.methodLink R_K 182 y_K_startOf ∈ pTB := pT 347 (by decide +kernel) rfl
theorem lm_K_149 : Cond.methodLink R_K 149 y_B_conclusionOf ∈ pTB := pT 351 (by decide +kernel) rfl
theorem lm_K_185 : Cond.methodLink R_K 185 y_S_firstPart ∈ pTB := pT 355 (by decide +kernel) rfl
theorem lm_K_188 : Cond.methodLink R_K 188 y_S_same ∈ pTB := pT 359 (by decide +kernel) rfl
theorem lm_S_22 : Cond.methodLink R_S 22 y_S_behind ∈ pTB := pT 363 (by decide +kernel) rfl
theorem lm_S_31 : Cond.methodLink R_S 31 y_S_token ∈ pTB := pT 364 (by decide +kernel) rfl
theorem lm_K_191 : Cond.methodLink R_K 191 y_S_secondPart ∈ pTB := pT 365 (by decide +kernel) rfl
theorem lm_K_121 : Cond.methodLink R_K 121 y_K_bindsWhatIsAssumed ∈ pTB := pT 369 (by decide +kernel) rfl
theorem lm_K_152 : Cond.methodLink R_K 152 y_B_hypothesesOf ∈ pTB := pT 373 (by decide +kernel) rfl
theorem lm_K_194 : Cond.methodLink R_K 194 y_K_isIn ∈ pTB := pT 377 (by decide +kernel) rfl
theorem lm_K_136 : Cond.methodLink R_K 136 y_S_holds ∈ pTB := pT 380 (by decide +kernel) rfl
theorem lm_K_124 : Cond.methodLink R_K 124 y_B_isFull ∈ pTB := pT 384 (by decide +kernel) rfl
theorem lm_K_128 : Cond.methodLink R_K 128 y_K_derive ∈ pTB := pT 388 (by decide +kernel) rfl
theorem lm_K_198 : Cond.methodLink R_K 198 y_K_substitutedHypotheses ∈ pTB := pT 392 (by decide +kernel) rfl
theorem lm_K_215 : Cond.methodLink R_K 215 y_K_draftSubstituted ∈ pTB := pT 396 (by decide +kernel) rfl
theorem lm_K_218 : Cond.methodLink R_K 218 y_D_addReplacing ∈ pTB := pT 400 (by decide +kernel) rfl
theorem lm_D_60 : Cond.methodLink R_D 60 y_D_addPart ∈ pTB := pT 404 (by decide +kernel) rfl
theorem lk_K_206 : Cond.constantLong R_K 206 (-4) ∈ pTB := pT 405 (by decide +kernel) rfl
theorem lm_K_202 : Cond.methodLink R_K 202 y_K_joinedHypotheses ∈ pTB := pT 406 (by decide +kernel) rfl
theorem lk_K_156 : Cond.constantLong R_K 156 (-1) ∈ pTB := pT 410 (by decide +kernel) rfl
theorem lm_K_208 : Cond.methodLink R_K 208 y_K_draftConclusion ∈ pTB := pT 411 (by decide +kernel) rfl
theorem lm_K_221 : Cond.methodLink R_K 221 y_D_addFilling ∈ pTB := pT 415 (by decide +kernel) rfl
theorem lm_D_54 : Cond.methodLink R_D 54 y_O_tag ∈ pTB := pT 419 (by decide +kernel) rfl
theorem lm_D_57 : Cond.methodLink R_D 57 y_O_info ∈ pTB := pT 420 (by decide +kernel) rfl
theorem lm_K_211 : Cond.methodLink R_K 211 y_S_cutTo ∈ pTB := pT 421 (by decide +kernel) rfl
theorem lm_K_212 : Cond.methodLink R_K 212 y_B_add ∈ pTB := pT 425 (by decide +kernel) rfl
theorem lm_L_44 : Cond.methodLink R_L 44 y_K_terms ∈ pTB := pT 429 (by decide +kernel) rfl
theorem lm_L_49 : Cond.methodLink R_L 49 y_K_theorems ∈ pTB := pT 433 (by decide +kernel) rfl
theorem lm_K_132 : Cond.methodLink R_K 132 y_B_count ∈ pTB := pT 437 (by decide +kernel) rfl
theorem lm_L_53 : Cond.methodLink R_L 53 y_K_typeOf ∈ pTB := pT 441 (by decide +kernel) rfl
theorem lm_L_58 : Cond.methodLink R_L 58 y_K_size ∈ pTB := pT 445 (by decide +kernel) rfl
theorem lm_K_133 : Cond.methodLink R_K 133 y_S_length ∈ pTB := pT 449 (by decide +kernel) rfl
theorem lm_L_62 : Cond.methodLink R_L 62 y_K_free ∈ pTB := pT 453 (by decide +kernel) rfl
theorem lm_L_67 : Cond.methodLink R_L 67 y_K_printed ∈ pTB := pT 457 (by decide +kernel) rfl
theorem lm_K_139 : Cond.methodLink R_K 139 y_O_letter ∈ pTB := pT 461 (by decide +kernel) rfl
theorem lm_O_11 : Cond.methodLink R_O 11 y_O_tag ∈ pTB := pT 464 (by decide +kernel) rfl
theorem lm_O_15 : Cond.methodLink R_O 15 y_O_info ∈ pTB := pT 465 (by decide +kernel) rfl
theorem lm_K_142 : Cond.methodLink R_K 142 y_O_showsType ∈ pTB := pT 466 (by decide +kernel) rfl
theorem lm_O_18 : Cond.methodLink R_O 18 y_O_binds ∈ pTB := pT 469 (by decide +kernel) rfl
theorem lm_K_145 : Cond.methodLink R_K 145 y_O_typeLetter ∈ pTB := pT 470 (by decide +kernel) rfl
theorem lm_O_22 : Cond.methodLink R_O 22 y_O_type ∈ pTB := pT 473 (by decide +kernel) rfl
theorem lm_L_71 : Cond.methodLink R_L 71 y_K_conclusion ∈ pTB := pT 474 (by decide +kernel) rfl
theorem lm_L_75 : Cond.methodLink R_L 75 y_K_hypotheses ∈ pTB := pT 478 (by decide +kernel) rfl
theorem lm_L_80 : Cond.methodLink R_L 80 y_K_axioms ∈ pTB := pT 482 (by decide +kernel) rfl
theorem lm_K_158 : Cond.methodLink R_K 158 y_B_axiomsOf ∈ pTB := pT 486 (by decide +kernel) rfl
theorem nm_B_35 : Cond.methodLinkNest R_B 35 y_K_isIn "ProofKernel" ∈ lw_tbl := List.mem_of_getElem? (i := 490) (by decide +kernel)
theorem lm_B_39 : Cond.methodLink R_B 39 y_B_firstPremise ∈ pTB := pT 491 (by decide +kernel) rfl
theorem nf_B_60 : Cond.fieldLinkNest R_B 60 "ProofKernel" "NAMED_BY_X" "[I" "ProofKernel" ∈ lw_tbl := List.mem_of_getElem? (i := 495) (by decide +kernel)
theorem lm_B_43 : Cond.methodLink R_B 43 y_B_setOf ∈ pTB := pT 496 (by decide +kernel) rfl
theorem lm_B_47 : Cond.methodLink R_B 47 y_B_secondPremise ∈ pTB := pT 499 (by decide +kernel) rfl
theorem nf_B_63 : Cond.fieldLinkNest R_B 63 "ProofKernel" "NAMED_BY_Y" "[I" "ProofKernel" ∈ lw_tbl := List.mem_of_getElem? (i := 503) (by decide +kernel)
theorem lm_L_84 : Cond.methodLink R_L 84 y_K_steps ∈ pTB := pT 504 (by decide +kernel) rfl
theorem lm_K_161 : Cond.methodLink R_K 161 y_B_stepsOf ∈ pTB := pT 508 (by decide +kernel) rfl
theorem lm_B_50 : Cond.methodLink R_B 50 y_B_stepsBefore ∈ pTB := pT 512 (by decide +kernel) rfl
theorem lk_B_53 : Cond.constant R_B 53 1000000 ∈ pTB := pT 516 (by decide +kernel) rfl
theorem lm_B_54 : Cond.methodLink R_B 54 Lib.Math.min.name ∈ pTB := pT 517 (by decide +kernel) rfl
theorem lc_L_10 : Cond.classLink R_L 10 R_M ∈ pTB := pT 520 (by decide +kernel) rfl
theorem lm_L_12 : Cond.methodLink R_L 12 y_M_init ∈ pTB := pT 522 (by decide +kernel) rfl
theorem lm_M_1 : Cond.methodLink R_M 1 objectInit ∈ pTB := pT 525 (by decide +kernel) rfl
theorem lf_M_7 : Cond.fieldLink R_M 7 "ProofKernelModel" "row" "[I" ∈ pTB := pT 526 (by decide +kernel) rfl
theorem lf_M_65 : Cond.fieldLink R_M 65 "ProofKernelModel" "made" "I" ∈ pTB := pT 527 (by decide +kernel) rfl
theorem lf_M_78 : Cond.fieldLink R_M 78 "ProofKernelModel" "terms" "I" ∈ pTB := pT 528 (by decide +kernel) rfl
theorem lf_M_13 : Cond.fieldLink R_M 13 "ProofKernelModel" "length" "[I" ∈ pTB := pT 529 (by decide +kernel) rfl
theorem lf_M_16 : Cond.fieldLink R_M 16 "ProofKernelModel" "sort" "[I" ∈ pTB := pT 530 (by decide +kernel) rfl
theorem lf_M_19 : Cond.fieldLink R_M 19 "ProofKernelModel" "kind" "[I" ∈ pTB := pT 531 (by decide +kernel) rfl
theorem lf_M_22 : Cond.fieldLink R_M 22 "ProofKernelModel" "types" "I" ∈ pTB := pT 532 (by decide +kernel) rfl
theorem lf_M_26 : Cond.fieldLink R_M 26 "ProofKernelModel" "from" "[I" ∈ pTB := pT 533 (by decide +kernel) rfl
theorem lf_M_29 : Cond.fieldLink R_M 29 "ProofKernelModel" "to" "[I" ∈ pTB := pT 534 (by decide +kernel) rfl
theorem lf_M_32 : Cond.fieldLink R_M 32 "ProofKernelModel" "declared" "[I" ∈ pTB := pT 535 (by decide +kernel) rfl
theorem lf_M_115 : Cond.fieldLink R_M 115 "ProofKernelModel" "theorems" "I" ∈ pTB := pT 536 (by decide +kernel) rfl
theorem lf_M_35 : Cond.fieldLink R_M 35 "ProofKernelModel" "hypotheses" "[J" ∈ pTB := pT 537 (by decide +kernel) rfl
theorem lf_M_39 : Cond.fieldLink R_M 39 "ProofKernelModel" "conclusion" "[I" ∈ pTB := pT 538 (by decide +kernel) rfl
theorem lf_M_42 : Cond.fieldLink R_M 42 "ProofKernelModel" "axioms" "[J" ∈ pTB := pT 539 (by decide +kernel) rfl
theorem lf_M_45 : Cond.fieldLink R_M 45 "ProofKernelModel" "steps" "[I" ∈ pTB := pT 540 (by decide +kernel) rfl
theorem lf_M_118 : Cond.fieldLink R_M 118 "ProofKernelModel" "set" "J" ∈ pTB := pT 541 (by decide +kernel) rfl
theorem lf_M_48 : Cond.fieldLink R_M 48 "ProofKernelModel" "text" "[I" ∈ pTB := pT 542 (by decide +kernel) rfl
theorem lf_M_162 : Cond.fieldLink R_M 162 "ProofKernelModel" "size" "I" ∈ pTB := pT 543 (by decide +kernel) rfl
theorem lm_L_17 : Cond.methodLink R_L 17 y_M_arrow ∈ pTB := pT 581 (by decide +kernel) rfl
theorem lm_M_92 : Cond.methodLink R_M 92 y_M_isType ∈ pTB := pT 585 (by decide +kernel) rfl
theorem lm_M_61 : Cond.methodLink R_M 61 y_M_find ∈ pTB := pT 589 (by decide +kernel) rfl
theorem lm_L_21 : Cond.methodLink R_L 21 y_M_variable ∈ pTB := pT 593 (by decide +kernel) rfl
theorem lm_M_68 : Cond.methodLink R_M 68 y_M_put ∈ pTB := pT 597 (by decide +kernel) rfl
theorem lm_M_95 : Cond.methodLink R_M 95 y_M_keep ∈ pTB := pT 601 (by decide +kernel) rfl
theorem lm_M_81 : Cond.methodLink R_M 81 y_M_same ∈ pTB := pT 605 (by decide +kernel) rfl
theorem lm_M_55 : Cond.methodLink R_M 55 y_M_end ∈ pTB := pT 609 (by decide +kernel) rfl
theorem lm_M_51 : Cond.methodLink R_M 51 y_M_parts ∈ pTB := pT 613 (by decide +kernel) rfl
theorem lm_M_85 : Cond.methodLink R_M 85 y_M_typesAt ∈ pTB := pT 616 (by decide +kernel) rfl
theorem lm_M_58 : Cond.methodLink R_M 58 y_M_binder ∈ pTB := pT 620 (by decide +kernel) rfl
theorem lm_L_25 : Cond.methodLink R_L 25 y_M_constant ∈ pTB := pT 624 (by decide +kernel) rfl
theorem lm_L_29 : Cond.methodLink R_L 29 y_M_apply ∈ pTB := pT 628 (by decide +kernel) rfl
theorem lm_M_99 : Cond.methodLink R_M 99 y_M_isTerm ∈ pTB := pT 632 (by decide +kernel) rfl
theorem lm_M_102 : Cond.methodLink R_M 102 y_M_fits ∈ pTB := pT 636 (by decide +kernel) rfl
theorem lm_M_72 : Cond.methodLink R_M 72 y_M_copy ∈ pTB := pT 640 (by decide +kernel) rfl
theorem lm_L_34 : Cond.methodLink R_L 34 y_M_bind ∈ pTB := pT 644 (by decide +kernel) rfl
theorem lm_M_105 : Cond.methodLink R_M 105 y_M_isVariableTerm ∈ pTB := pT 648 (by decide +kernel) rfl
theorem lm_M_88 : Cond.methodLink R_M 88 y_M_isVariable ∈ pTB := pT 652 (by decide +kernel) rfl
theorem lm_M_108 : Cond.methodLink R_M 108 y_M_arrow ∈ pTB := pT 655 (by decide +kernel) rfl
theorem lm_M_111 : Cond.methodLink R_M 111 y_M_copyWith ∈ pTB := pT 656 (by decide +kernel) rfl
theorem lm_M_75 : Cond.methodLink R_M 75 y_M_depth ∈ pTB := pT 660 (by decide +kernel) rfl
theorem lm_L_38 : Cond.methodLink R_L 38 y_M_join ∈ pTB := pT 664 (by decide +kernel) rfl
theorem lm_L_43 : Cond.methodLink R_L 43 y_M_rule ∈ pTB := pT 668 (by decide +kernel) rfl
theorem lm_M_148 : Cond.methodLink R_M 148 y_M_there ∈ pTB := pT 672 (by decide +kernel) rfl
theorem lm_M_125 : Cond.methodLink R_M 125 y_M_named ∈ pTB := pT 676 (by decide +kernel) rfl
theorem lm_M_128 : Cond.methodLink R_M 128 y_M_isTheorem ∈ pTB := pT 679 (by decide +kernel) rfl
theorem lm_M_152 : Cond.methodLink R_M 152 y_M_substitute ∈ pTB := pT 683 (by decide +kernel) rfl
theorem lm_M_155 : Cond.methodLink R_M 155 y_M_reason ∈ pTB := pT 687 (by decide +kernel) rfl
theorem lk_M_131 : Cond.constantLong R_M 131 (-1) ∈ pTB := pT 691 (by decide +kernel) rfl
theorem lm_M_133 : Cond.methodLink R_M 133 y_M_freeInSet ∈ pTB := pT 692 (by decide +kernel) rfl
theorem lm_M_122 : Cond.methodLink R_M 122 y_M_isIn ∈ pTB := pT 696 (by decide +kernel) rfl
theorem lm_M_136 : Cond.methodLink R_M 136 y_M_copyOpened ∈ pTB := pT 700 (by decide +kernel) rfl
theorem lm_M_158 : Cond.methodLink R_M 158 y_M_equate ∈ pTB := pT 704 (by decide +kernel) rfl
theorem lm_M_140 : Cond.methodLink R_M 140 y_M_abstraction ∈ pTB := pT 708 (by decide +kernel) rfl
theorem lm_M_144 : Cond.methodLink R_M 144 y_M_two ∈ pTB := pT 712 (by decide +kernel) rfl
theorem lk_M_161 : Cond.constant R_M 161 1000000 ∈ pTB := pT 716 (by decide +kernel) rfl
theorem lm_L_48 : Cond.methodLink R_L 48 y_M_terms ∈ pTB := pT 717 (by decide +kernel) rfl
theorem lm_L_52 : Cond.methodLink R_L 52 y_M_theorems ∈ pTB := pT 721 (by decide +kernel) rfl
theorem lm_L_57 : Cond.methodLink R_L 57 y_M_typeOf ∈ pTB := pT 725 (by decide +kernel) rfl
theorem lm_L_61 : Cond.methodLink R_L 61 y_M_size ∈ pTB := pT 729 (by decide +kernel) rfl
theorem lm_L_66 : Cond.methodLink R_L 66 y_M_free ∈ pTB := pT 733 (by decide +kernel) rfl
theorem lm_L_70 : Cond.methodLink R_L 70 y_M_printed ∈ pTB := pT 737 (by decide +kernel) rfl
theorem lm_M_165 : Cond.methodLink R_M 165 y_M_say ∈ pTB := pT 741 (by decide +kernel) rfl
theorem lm_L_74 : Cond.methodLink R_L 74 y_M_conclusion ∈ pTB := pT 745 (by decide +kernel) rfl
theorem lm_L_79 : Cond.methodLink R_L 79 y_M_hypotheses ∈ pTB := pT 749 (by decide +kernel) rfl
theorem lm_L_83 : Cond.methodLink R_L 83 y_M_axioms ∈ pTB := pT 753 (by decide +kernel) rfl
theorem lm_L_87 : Cond.methodLink R_L 87 y_M_steps ∈ pTB := pT 757 (by decide +kernel) rfl
theorem pw_mm1 : Cond.static Lib.Math.min.name ∈ pTB := pT 518 (by decide +kernel) rfl
theorem pw_mm2 : Cond.initialized "java/lang/Math" ∈ pTB := pT 54 (by decide +kernel) rfl
theorem pw_mm3 : Cond.code Lib.Math.min.name Lib.Math.min.code 2 (some .int) ∈ pTB := pT 519 (by decide +kernel) rfl
theorem pw_ac1 : Cond.native arraycopyName ∈ pTB := pT 217 (by decide +kernel) rfl
theorem pw_ac2 : Cond.static arraycopyName ∈ pTB := pT 216 (by decide +kernel) rfl
theorem pw_ac3 : Cond.initialized "java/lang/System" ∈ pTB := pT 53 (by decide +kernel) rfl
theorem pw_stX : Cond.laysStatic "ProofKernel" "NAMED_BY_X" "[I" ∈ lw_tbl := List.mem_of_getElem? (i := 332) (by decide +kernel)
theorem pw_stY : Cond.laysStatic "ProofKernel" "NAMED_BY_Y" "[I" ∈ lw_tbl := List.mem_of_getElem? (i := 342) (by decide +kernel)
end
section
theorem d_K_init_0 : decode b_K_init 0 = .ok (.aload_n 0, 1) := by decide +kernel
theorem d_K_init_1 : decode b_K_init 1 = .ok (.invokespecial 1, 3) := by decide +kernel
theorem d_K_init_4 : decode b_K_init 4 = .ok (.aload_n 0, 1) := by decide +kernel
theorem d_K_init_5 : decode b_K_init 5 = .ok (.new 7, 3) := by decide +kernel
theorem d_K_init_8 : decode b_K_init 8 = .ok (.dup, 1) := by decide +kernel
theorem d_K_init_9 : decode b_K_init 9 = .ok (.invokespecial 9, 3) := by decide +kernel
theorem d_K_init_12 : decode b_K_init 12 = .ok (.putfield 10, 3) := by decide +kernel
theorem d_K_init_15 : decode b_K_init 15 = .ok (.aload_n 0, 1) := by decide +kernel
theorem d_K_init_16 : decode b_K_init 16 = .ok (.new 16, 3) := by decide +kernel
theorem d_K_init_19 : decode b_K_init 19 = .ok (.dup, 1) := by decide +kernel
theorem d_K_init_20 : decode b_K_init 20 = .ok (.invokespecial 18, 3) := by decide +kernel
theorem d_K_init_23 : decode b_K_init 23 = .ok (.putfield 19, 3) := by decide +kernel
theorem d_K_init_26 : decode b_K_init 26 = .ok (.aload_n 0, 1) := by decide +kernel
theorem d_K_init_27 : decode b_K_init 27 = .ok (.new 23, 3) := by decide +kernel
theorem d_K_init_30 : decode b_K_init 30 = .ok (.dup, 1) := by decide +kernel
theorem d_K_init_31 : decode b_K_init 31 = .ok (.aload_n 0, 1) := by decide +kernel
theorem d_K_init_32 : decode b_K_init 32 = .ok (.getfield 19, 3) := by decide +kernel
theorem d_K_init_35 : decode b_K_init 35 = .ok (.invokespecial 25, 3) := by decide +kernel
theorem d_K_init_38 : decode b_K_init 38 = .ok (.putfield 28, 3) := by decide +kernel
theorem d_K_init_41 : decode b_K_init 41 = .ok (.aload_n 0, 1) := by decide +kernel
theorem d_K_init_42 : decode b_K_init 42 = .ok (.new 32, 3) := by decide +kernel
theorem d_K_init_45 : decode b_K_init 45 = .ok (.dup, 1) := by decide +kernel
theorem d_K_init_46 : decode b_K_init 46 = .ok (.invokespecial 34, 3) := by decide +kernel
theorem d_K_init_49 : decode b_K_init 49 = .ok (.putfield 35, 3) := by decide +kernel
theorem d_K_init_52 : decode b_K_init 52 = .ok (.return_, 1) := by decide +kernel
theorem d_K_arrow_0 : decode b_K_arrow 0 = .ok (.aload_n 0, 1) := by decide +kernel
theorem d_K_arrow_1 : decode b_K_arrow 1 = .ok (.getfield 10, 3) := by decide +kernel
theorem d_K_arrow_4 : decode b_K_arrow 4 = .ok (.iload_n 1, 1) := by decide +kernel
theorem d_K_arrow_5 : decode b_K_arrow 5 = .ok (.invokevirtual 39, 3) := by decide +kernel
theorem d_K_arrow_8 : decode b_K_arrow 8 = .ok (.ifCond .eq 14, 3) := by decide +kernel
theorem d_K_arrow_11 : decode b_K_arrow 11 = .ok (.aload_n 0, 1) := by decide +kernel
theorem d_K_arrow_12 : decode b_K_arrow 12 = .ok (.getfield 10, 3) := by decide +kernel
theorem d_K_arrow_15 : decode b_K_arrow 15 = .ok (.iload_n 2, 1) := by decide +kernel
theorem d_K_arrow_16 : decode b_K_arrow 16 = .ok (.invokevirtual 39, 3) := by decide +kernel
theorem d_K_arrow_19 : decode b_K_arrow 19 = .ok (.ifCond .ne 5, 3) := by decide +kernel
theorem d_K_arrow_22 : decode b_K_arrow 22 = .ok (.iconst (-1), 1) := by decide +kernel
theorem d_K_arrow_23 : decode b_K_arrow 23 = .ok (.ireturn, 1) := by decide +kernel
theorem d_K_arrow_24 : decode b_K_arrow 24 = .ok (.aload_n 0, 1) := by decide +kernel
theorem d_K_arrow_25 : decode b_K_arrow 25 = .ok (.getfield 10, 3) := by decide +kernel
theorem d_K_arrow_28 : decode b_K_arrow 28 = .ok (.iload_n 1, 1) := by decide +kernel
theorem d_K_arrow_29 : decode b_K_arrow 29 = .ok (.iload_n 2, 1) := by decide +kernel
theorem d_K_arrow_30 : decode b_K_arrow 30 = .ok (.invokevirtual 43, 3) := by decide +kernel
theorem d_K_arrow_33 : decode b_K_arrow 33 = .ok (.ireturn, 1) := by decide +kernel
theorem d_K_variable_0 : decode b_K_variable 0 = .ok (.iload_n 1, 1) := by decide +kernel
theorem d_K_variable_1 : decode b_K_variable 1 = .ok (.ifCond .lt 20, 3) := by decide +kernel
theorem d_K_variable_4 : decode b_K_variable 4 = .ok (.iload_n 1, 1) := by decide +kernel
theorem d_K_variable_5 : decode b_K_variable 5 = .ok (.bipush 10, 2) := by decide +kernel
theorem d_K_variable_7 : decode b_K_variable 7 = .ok (.if_icmp .ge 14, 3) := by decide +kernel
theorem d_K_variable_10 : decode b_K_variable 10 = .ok (.aload_n 0, 1) := by decide +kernel
theorem d_K_variable_11 : decode b_K_variable 11 = .ok (.getfield 10, 3) := by decide +kernel
theorem d_K_variable_14 : decode b_K_variable 14 = .ok (.iload_n 2, 1) := by decide +kernel
theorem d_K_variable_15 : decode b_K_variable 15 = .ok (.invokevirtual 39, 3) := by decide +kernel
theorem d_K_variable_18 : decode b_K_variable 18 = .ok (.ifCond .ne 5, 3) := by decide +kernel
theorem d_K_variable_21 : decode b_K_variable 21 = .ok (.iconst (-1), 1) := by decide +kernel
theorem d_K_variable_22 : decode b_K_variable 22 = .ok (.ireturn, 1) := by decide +kernel
theorem d_K_variable_23 : decode b_K_variable 23 = .ok (.aload_n 0, 1) := by decide +kernel
theorem d_K_variable_24 : decode b_K_variable 24 = .ok (.getfield 28, 3) := by decide +kernel
theorem d_K_variable_27 : decode b_K_variable 27 = .ok (.invokevirtual 47, 3) := by decide +kernel
theorem d_K_variable_30 : decode b_K_variable 30 = .ok (.aload_n 0, 1) := by decide +kernel
theorem d_K_variable_31 : decode b_K_variable 31 = .ok (.getfield 28, 3) := by decide +kernel
theorem d_K_variable_34 : decode b_K_variable 34 = .ok (.iconst 0, 1) := by decide +kernel
theorem d_K_variable_35 : decode b_K_variable 35 = .ok (.iload_n 1, 1) := by decide +kernel
theorem d_K_variable_36 : decode b_K_variable 36 = .ok (.iload_n 2, 1) := by decide +kernel
theorem d_K_variable_37 : decode b_K_variable 37 = .ok (.invokestatic 50, 3) := by decide +kernel
theorem d_K_variable_40 : decode b_K_variable 40 = .ok (.invokevirtual 56, 3) := by decide +kernel
theorem d_K_variable_43 : decode b_K_variable 43 = .ok (.aload_n 0, 1) := by decide +kernel
theorem d_K_variable_44 : decode b_K_variable 44 = .ok (.getfield 19, 3) := by decide +kernel
theorem d_K_variable_47 : decode b_K_variable 47 = .ok (.aload_n 0, 1) := by decide +kernel
theorem d_K_variable_48 : decode b_K_variable 48 = .ok (.getfield 28, 3) := by decide +kernel
theorem d_K_variable_51 : decode b_K_variable 51 = .ok (.invokevirtual 60, 3) := by decide +kernel
theorem d_K_variable_54 : decode b_K_variable 54 = .ok (.ireturn, 1) := by decide +kernel
theorem d_K_constant_0 : decode b_K_constant 0 = .ok (.iload_n 1, 1) := by decide +kernel
theorem d_K_constant_1 : decode b_K_constant 1 = .ok (.ifCond .lt 19, 3) := by decide +kernel
theorem d_K_constant_4 : decode b_K_constant 4 = .ok (.iload_n 1, 1) := by decide +kernel
theorem d_K_constant_5 : decode b_K_constant 5 = .ok (.iconst 4, 1) := by decide +kernel
theorem d_K_constant_6 : decode b_K_constant 6 = .ok (.if_icmp .ge 14, 3) := by decide +kernel
theorem d_K_constant_9 : decode b_K_constant 9 = .ok (.aload_n 0, 1) := by decide +kernel
theorem d_K_constant_10 : decode b_K_constant 10 = .ok (.getfield 10, 3) := by decide +kernel
theorem d_K_constant_13 : decode b_K_constant 13 = .ok (.iload_n 2, 1) := by decide +kernel
theorem d_K_constant_14 : decode b_K_constant 14 = .ok (.invokevirtual 39, 3) := by decide +kernel
theorem d_K_constant_17 : decode b_K_constant 17 = .ok (.ifCond .ne 5, 3) := by decide +kernel
theorem d_K_constant_20 : decode b_K_constant 20 = .ok (.iconst (-1), 1) := by decide +kernel
theorem d_K_constant_21 : decode b_K_constant 21 = .ok (.ireturn, 1) := by decide +kernel
theorem d_K_constant_22 : decode b_K_constant 22 = .ok (.aload_n 0, 1) := by decide +kernel
theorem d_K_constant_23 : decode b_K_constant 23 = .ok (.iload_n 1, 1) := by decide +kernel
theorem d_K_constant_24 : decode b_K_constant 24 = .ok (.invokevirtual 64, 3) := by decide +kernel
theorem d_K_constant_27 : decode b_K_constant 27 = .ok (.istore_n 3, 1) := by decide +kernel
theorem d_K_constant_28 : decode b_K_constant 28 = .ok (.iload_n 3, 1) := by decide +kernel
theorem d_K_constant_29 : decode b_K_constant 29 = .ok (.iconst (-1), 1) := by decide +kernel
theorem d_K_constant_30 : decode b_K_constant 30 = .ok (.if_icmp .eq 11, 3) := by decide +kernel
theorem d_K_constant_33 : decode b_K_constant 33 = .ok (.iload_n 3, 1) := by decide +kernel
theorem d_K_constant_34 : decode b_K_constant 34 = .ok (.iload_n 2, 1) := by decide +kernel
theorem d_K_constant_35 : decode b_K_constant 35 = .ok (.if_icmp .eq 6, 3) := by decide +kernel
theorem d_K_constant_38 : decode b_K_constant 38 = .ok (.bipush (-2), 2) := by decide +kernel
theorem d_K_constant_40 : decode b_K_constant 40 = .ok (.ireturn, 1) := by decide +kernel
theorem d_K_constant_41 : decode b_K_constant 41 = .ok (.aload_n 0, 1) := by decide +kernel
theorem d_K_constant_42 : decode b_K_constant 42 = .ok (.getfield 28, 3) := by decide +kernel
theorem d_K_constant_45 : decode b_K_constant 45 = .ok (.invokevirtual 47, 3) := by decide +kernel
theorem d_K_constant_48 : decode b_K_constant 48 = .ok (.aload_n 0, 1) := by decide +kernel
theorem d_K_constant_49 : decode b_K_constant 49 = .ok (.getfield 28, 3) := by decide +kernel
theorem d_K_constant_52 : decode b_K_constant 52 = .ok (.iconst 1, 1) := by decide +kernel
theorem d_K_constant_53 : decode b_K_constant 53 = .ok (.iload_n 1, 1) := by decide +kernel
theorem d_K_constant_54 : decode b_K_constant 54 = .ok (.iload_n 2, 1) := by decide +kernel
theorem d_K_constant_55 : decode b_K_constant 55 = .ok (.invokestatic 50, 3) := by decide +kernel
theorem d_K_constant_58 : decode b_K_constant 58 = .ok (.invokevirtual 56, 3) := by decide +kernel
theorem d_K_constant_61 : decode b_K_constant 61 = .ok (.aload_n 0, 1) := by decide +kernel
theorem d_K_constant_62 : decode b_K_constant 62 = .ok (.getfield 19, 3) := by decide +kernel
theorem d_K_constant_65 : decode b_K_constant 65 = .ok (.aload_n 0, 1) := by decide +kernel
theorem d_K_constant_66 : decode b_K_constant 66 = .ok (.getfield 28, 3) := by decide +kernel
theorem d_K_constant_69 : decode b_K_constant 69 = .ok (.invokevirtual 60, 3) := by decide +kernel
theorem d_K_constant_72 : decode b_K_constant 72 = .ok (.ireturn, 1) := by decide +kernel
theorem d_K_apply_0 : decode b_K_apply 0 = .ok (.aload_n 0, 1) := by decide +kernel
theorem d_K_apply_1 : decode b_K_apply 1 = .ok (.getfield 19, 3) := by decide +kernel
theorem d_K_apply_4 : decode b_K_apply 4 = .ok (.iload_n 1, 1) := by decide +kernel
theorem d_K_apply_5 : decode b_K_apply 5 = .ok (.invokevirtual 68, 3) := by decide +kernel
theorem d_K_apply_8 : decode b_K_apply 8 = .ok (.ifCond .eq 14, 3) := by decide +kernel
theorem d_K_apply_11 : decode b_K_apply 11 = .ok (.aload_n 0, 1) := by decide +kernel
theorem d_K_apply_12 : decode b_K_apply 12 = .ok (.getfield 19, 3) := by decide +kernel
theorem d_K_apply_15 : decode b_K_apply 15 = .ok (.iload_n 2, 1) := by decide +kernel
theorem d_K_apply_16 : decode b_K_apply 16 = .ok (.invokevirtual 68, 3) := by decide +kernel
theorem d_K_apply_19 : decode b_K_apply 19 = .ok (.ifCond .ne 5, 3) := by decide +kernel
theorem d_K_apply_22 : decode b_K_apply 22 = .ok (.iconst (-1), 1) := by decide +kernel
theorem d_K_apply_23 : decode b_K_apply 23 = .ok (.ireturn, 1) := by decide +kernel
theorem d_K_apply_24 : decode b_K_apply 24 = .ok (.aload_n 0, 1) := by decide +kernel
theorem d_K_apply_25 : decode b_K_apply 25 = .ok (.getfield 10, 3) := by decide +kernel
theorem d_K_apply_28 : decode b_K_apply 28 = .ok (.aload_n 0, 1) := by decide +kernel
theorem d_K_apply_29 : decode b_K_apply 29 = .ok (.aload_n 0, 1) := by decide +kernel
theorem d_K_apply_30 : decode b_K_apply 30 = .ok (.getfield 19, 3) := by decide +kernel
theorem d_K_apply_33 : decode b_K_apply 33 = .ok (.iload_n 1, 1) := by decide +kernel
theorem d_K_apply_34 : decode b_K_apply 34 = .ok (.invokevirtual 69, 3) := by decide +kernel
theorem d_K_apply_37 : decode b_K_apply 37 = .ok (.invokevirtual 72, 3) := by decide +kernel
theorem d_K_apply_40 : decode b_K_apply 40 = .ok (.aload_n 0, 1) := by decide +kernel
theorem d_K_apply_41 : decode b_K_apply 41 = .ok (.aload_n 0, 1) := by decide +kernel
theorem d_K_apply_42 : decode b_K_apply 42 = .ok (.getfield 19, 3) := by decide +kernel
theorem d_K_apply_45 : decode b_K_apply 45 = .ok (.iload_n 2, 1) := by decide +kernel
theorem d_K_apply_46 : decode b_K_apply 46 = .ok (.invokevirtual 69, 3) := by decide +kernel
theorem d_K_apply_49 : decode b_K_apply 49 = .ok (.invokevirtual 72, 3) := by decide +kernel
theorem d_K_apply_52 : decode b_K_apply 52 = .ok (.invokevirtual 75, 3) := by decide +kernel
theorem d_K_apply_55 : decode b_K_apply 55 = .ok (.ifCond .ne 6, 3) := by decide +kernel
theorem d_K_apply_58 : decode b_K_apply 58 = .ok (.bipush (-2), 2) := by decide +kernel
theorem d_K_apply_60 : decode b_K_apply 60 = .ok (.ireturn, 1) := by decide +kernel
theorem d_K_apply_61 : decode b_K_apply 61 = .ok (.aload_n 0, 1) := by decide +kernel
theorem d_K_apply_62 : decode b_K_apply 62 = .ok (.getfield 28, 3) := by decide +kernel
theorem d_K_apply_65 : decode b_K_apply 65 = .ok (.invokevirtual 47, 3) := by decide +kernel
theorem d_K_apply_68 : decode b_K_apply 68 = .ok (.aload_n 0, 1) := by decide +kernel
theorem d_K_apply_69 : decode b_K_apply 69 = .ok (.aload_n 0, 1) := by decide +kernel
theorem d_K_apply_70 : decode b_K_apply 70 = .ok (.getfield 19, 3) := by decide +kernel
theorem d_K_apply_73 : decode b_K_apply 73 = .ok (.iload_n 1, 1) := by decide +kernel
theorem d_K_apply_74 : decode b_K_apply 74 = .ok (.invokevirtual 69, 3) := by decide +kernel
theorem d_K_apply_77 : decode b_K_apply 77 = .ok (.aload_n 0, 1) := by decide +kernel
theorem d_K_apply_78 : decode b_K_apply 78 = .ok (.getfield 19, 3) := by decide +kernel
theorem d_K_apply_81 : decode b_K_apply 81 = .ok (.iload_n 2, 1) := by decide +kernel
theorem d_K_apply_82 : decode b_K_apply 82 = .ok (.invokevirtual 69, 3) := by decide +kernel
theorem d_K_apply_85 : decode b_K_apply 85 = .ok (.invokevirtual 79, 3) := by decide +kernel
theorem d_K_apply_88 : decode b_K_apply 88 = .ok (.aload_n 0, 1) := by decide +kernel
theorem d_K_apply_89 : decode b_K_apply 89 = .ok (.getfield 19, 3) := by decide +kernel
theorem d_K_apply_92 : decode b_K_apply 92 = .ok (.aload_n 0, 1) := by decide +kernel
theorem d_K_apply_93 : decode b_K_apply 93 = .ok (.getfield 28, 3) := by decide +kernel
theorem d_K_apply_96 : decode b_K_apply 96 = .ok (.invokevirtual 60, 3) := by decide +kernel
theorem d_K_apply_99 : decode b_K_apply 99 = .ok (.ireturn, 1) := by decide +kernel
theorem d_K_bind_0 : decode b_K_bind 0 = .ok (.aload_n 0, 1) := by decide +kernel
theorem d_K_bind_1 : decode b_K_bind 1 = .ok (.getfield 19, 3) := by decide +kernel
theorem d_K_bind_4 : decode b_K_bind 4 = .ok (.iload_n 2, 1) := by decide +kernel
theorem d_K_bind_5 : decode b_K_bind 5 = .ok (.invokevirtual 68, 3) := by decide +kernel
theorem d_K_bind_8 : decode b_K_bind 8 = .ok (.ifCond .eq 14, 3) := by decide +kernel
theorem d_K_bind_11 : decode b_K_bind 11 = .ok (.aload_n 0, 1) := by decide +kernel
theorem d_K_bind_12 : decode b_K_bind 12 = .ok (.getfield 19, 3) := by decide +kernel
theorem d_K_bind_15 : decode b_K_bind 15 = .ok (.iload_n 3, 1) := by decide +kernel
theorem d_K_bind_16 : decode b_K_bind 16 = .ok (.invokevirtual 68, 3) := by decide +kernel
theorem d_K_bind_19 : decode b_K_bind 19 = .ok (.ifCond .ne 5, 3) := by decide +kernel
theorem d_K_bind_22 : decode b_K_bind 22 = .ok (.iconst (-1), 1) := by decide +kernel
theorem d_K_bind_23 : decode b_K_bind 23 = .ok (.ireturn, 1) := by decide +kernel
theorem d_K_bind_24 : decode b_K_bind 24 = .ok (.aload_n 0, 1) := by decide +kernel
theorem d_K_bind_25 : decode b_K_bind 25 = .ok (.getfield 19, 3) := by decide +kernel
theorem d_K_bind_28 : decode b_K_bind 28 = .ok (.iload_n 2, 1) := by decide +kernel
theorem d_K_bind_29 : decode b_K_bind 29 = .ok (.invokevirtual 69, 3) := by decide +kernel
theorem d_K_bind_32 : decode b_K_bind 32 = .ok (.istore 4, 2) := by decide +kernel
theorem d_K_bind_34 : decode b_K_bind 34 = .ok (.aload_n 0, 1) := by decide +kernel
theorem d_K_bind_35 : decode b_K_bind 35 = .ok (.getfield 19, 3) := by decide +kernel
theorem d_K_bind_38 : decode b_K_bind 38 = .ok (.iload_n 3, 1) := by decide +kernel
theorem d_K_bind_39 : decode b_K_bind 39 = .ok (.invokevirtual 69, 3) := by decide +kernel
theorem d_K_bind_42 : decode b_K_bind 42 = .ok (.istore 5, 2) := by decide +kernel
theorem d_K_bind_44 : decode b_K_bind 44 = .ok (.aload_n 0, 1) := by decide +kernel
theorem d_K_bind_45 : decode b_K_bind 45 = .ok (.iconst 0, 1) := by decide +kernel
theorem d_K_bind_46 : decode b_K_bind 46 = .ok (.iload 4, 2) := by decide +kernel
theorem d_K_bind_48 : decode b_K_bind 48 = .ok (.invokevirtual 83, 3) := by decide +kernel
theorem d_K_bind_51 : decode b_K_bind 51 = .ok (.ifCond .eq 16, 3) := by decide +kernel
theorem d_K_bind_54 : decode b_K_bind 54 = .ok (.iload_n 1, 1) := by decide +kernel
theorem d_K_bind_55 : decode b_K_bind 55 = .ok (.ifCond .eq 15, 3) := by decide +kernel
theorem d_K_bind_58 : decode b_K_bind 58 = .ok (.aload_n 0, 1) := by decide +kernel
theorem d_K_bind_59 : decode b_K_bind 59 = .ok (.iload 5, 2) := by decide +kernel
theorem d_K_bind_61 : decode b_K_bind 61 = .ok (.invokevirtual 72, 3) := by decide +kernel
theorem d_K_bind_64 : decode b_K_bind 64 = .ok (.ifCond .eq 6, 3) := by decide +kernel
theorem d_K_bind_67 : decode b_K_bind 67 = .ok (.bipush (-2), 2) := by decide +kernel
theorem d_K_bind_69 : decode b_K_bind 69 = .ok (.ireturn, 1) := by decide +kernel
theorem d_K_bind_70 : decode b_K_bind 70 = .ok (.aload_n 0, 1) := by decide +kernel
theorem d_K_bind_71 : decode b_K_bind 71 = .ok (.getfield 10, 3) := by decide +kernel
theorem d_K_bind_74 : decode b_K_bind 74 = .ok (.invokevirtual 86, 3) := by decide +kernel
theorem d_K_bind_77 : decode b_K_bind 77 = .ok (.istore 6, 2) := by decide +kernel
theorem d_K_bind_79 : decode b_K_bind 79 = .ok (.aload_n 0, 1) := by decide +kernel
theorem d_K_bind_80 : decode b_K_bind 80 = .ok (.getfield 28, 3) := by decide +kernel
theorem d_K_bind_83 : decode b_K_bind 83 = .ok (.invokevirtual 47, 3) := by decide +kernel
theorem d_K_bind_86 : decode b_K_bind 86 = .ok (.iload_n 1, 1) := by decide +kernel
theorem d_K_bind_87 : decode b_K_bind 87 = .ok (.ifCond .eq 26, 3) := by decide +kernel
theorem d_K_bind_90 : decode b_K_bind 90 = .ok (.aload_n 0, 1) := by decide +kernel
theorem d_K_bind_91 : decode b_K_bind 91 = .ok (.getfield 28, 3) := by decide +kernel
theorem d_K_bind_94 : decode b_K_bind 94 = .ok (.iconst 4, 1) := by decide +kernel
theorem d_K_bind_95 : decode b_K_bind 95 = .ok (.iconst 0, 1) := by decide +kernel
theorem d_K_bind_96 : decode b_K_bind 96 = .ok (.aload_n 0, 1) := by decide +kernel
theorem d_K_bind_97 : decode b_K_bind 97 = .ok (.getfield 19, 3) := by decide +kernel
theorem d_K_bind_100 : decode b_K_bind 100 = .ok (.iload 4, 2) := by decide +kernel
theorem d_K_bind_102 : decode b_K_bind 102 = .ok (.invokevirtual 90, 3) := by decide +kernel
theorem d_K_bind_105 : decode b_K_bind 105 = .ok (.iload 5, 2) := by decide +kernel
theorem d_K_bind_107 : decode b_K_bind 107 = .ok (.invokevirtual 93, 3) := by decide +kernel
theorem d_K_bind_110 : decode b_K_bind 110 = .ok (.goto 11, 3) := by decide +kernel
theorem d_K_bind_113 : decode b_K_bind 113 = .ok (.aload_n 0, 1) := by decide +kernel
theorem d_K_bind_114 : decode b_K_bind 114 = .ok (.iload 4, 2) := by decide +kernel
theorem d_K_bind_116 : decode b_K_bind 116 = .ok (.iload 5, 2) := by decide +kernel
theorem d_K_bind_118 : decode b_K_bind 118 = .ok (.invokevirtual 97, 3) := by decide +kernel
theorem d_K_bind_121 : decode b_K_bind 121 = .ok (.aload_n 0, 1) := by decide +kernel
theorem d_K_bind_122 : decode b_K_bind 122 = .ok (.getfield 19, 3) := by decide +kernel
theorem d_K_bind_125 : decode b_K_bind 125 = .ok (.aload_n 0, 1) := by decide +kernel
theorem d_K_bind_126 : decode b_K_bind 126 = .ok (.getfield 28, 3) := by decide +kernel
theorem d_K_bind_129 : decode b_K_bind 129 = .ok (.invokevirtual 60, 3) := by decide +kernel
theorem d_K_bind_132 : decode b_K_bind 132 = .ok (.istore 7, 2) := by decide +kernel
theorem d_K_bind_134 : decode b_K_bind 134 = .ok (.iload 7, 2) := by decide +kernel
theorem d_K_bind_136 : decode b_K_bind 136 = .ok (.bipush (-4), 2) := by decide +kernel
theorem d_K_bind_138 : decode b_K_bind 138 = .ok (.if_icmp .ne 12, 3) := by decide +kernel
theorem d_K_bind_141 : decode b_K_bind 141 = .ok (.aload_n 0, 1) := by decide +kernel
theorem d_K_bind_142 : decode b_K_bind 142 = .ok (.getfield 10, 3) := by decide +kernel
theorem d_K_bind_145 : decode b_K_bind 145 = .ok (.iload 6, 2) := by decide +kernel
theorem d_K_bind_147 : decode b_K_bind 147 = .ok (.invokevirtual 100, 3) := by decide +kernel
theorem d_K_bind_150 : decode b_K_bind 150 = .ok (.iload 7, 2) := by decide +kernel
theorem d_K_bind_152 : decode b_K_bind 152 = .ok (.ireturn, 1) := by decide +kernel
theorem d_K_join_0 : decode b_K_join 0 = .ok (.aload_n 0, 1) := by decide +kernel
theorem d_K_join_1 : decode b_K_join 1 = .ok (.getfield 19, 3) := by decide +kernel
theorem d_K_join_4 : decode b_K_join 4 = .ok (.iload_n 2, 1) := by decide +kernel
theorem d_K_join_5 : decode b_K_join 5 = .ok (.invokevirtual 68, 3) := by decide +kernel
theorem d_K_join_8 : decode b_K_join 8 = .ok (.ifCond .eq 14, 3) := by decide +kernel
theorem d_K_join_11 : decode b_K_join 11 = .ok (.aload_n 0, 1) := by decide +kernel
theorem d_K_join_12 : decode b_K_join 12 = .ok (.getfield 19, 3) := by decide +kernel
theorem d_K_join_15 : decode b_K_join 15 = .ok (.iload_n 3, 1) := by decide +kernel
theorem d_K_join_16 : decode b_K_join 16 = .ok (.invokevirtual 68, 3) := by decide +kernel
theorem d_K_join_19 : decode b_K_join 19 = .ok (.ifCond .ne 5, 3) := by decide +kernel
theorem d_K_join_22 : decode b_K_join 22 = .ok (.iconst (-1), 1) := by decide +kernel
theorem d_K_join_23 : decode b_K_join 23 = .ok (.ireturn, 1) := by decide +kernel
theorem d_K_join_24 : decode b_K_join 24 = .ok (.aload_n 0, 1) := by decide +kernel
theorem d_K_join_25 : decode b_K_join 25 = .ok (.getfield 19, 3) := by decide +kernel
theorem d_K_join_28 : decode b_K_join 28 = .ok (.iload_n 2, 1) := by decide +kernel
theorem d_K_join_29 : decode b_K_join 29 = .ok (.invokevirtual 69, 3) := by decide +kernel
theorem d_K_join_32 : decode b_K_join 32 = .ok (.istore 4, 2) := by decide +kernel
theorem d_K_join_34 : decode b_K_join 34 = .ok (.aload_n 0, 1) := by decide +kernel
theorem d_K_join_35 : decode b_K_join 35 = .ok (.getfield 19, 3) := by decide +kernel
theorem d_K_join_38 : decode b_K_join 38 = .ok (.iload_n 3, 1) := by decide +kernel
theorem d_K_join_39 : decode b_K_join 39 = .ok (.invokevirtual 69, 3) := by decide +kernel
theorem d_K_join_42 : decode b_K_join 42 = .ok (.istore 5, 2) := by decide +kernel
theorem d_K_join_44 : decode b_K_join 44 = .ok (.aload_n 0, 1) := by decide +kernel
theorem d_K_join_45 : decode b_K_join 45 = .ok (.iload 4, 2) := by decide +kernel
theorem d_K_join_47 : decode b_K_join 47 = .ok (.invokevirtual 72, 3) := by decide +kernel
theorem d_K_join_50 : decode b_K_join 50 = .ok (.aload_n 0, 1) := by decide +kernel
theorem d_K_join_51 : decode b_K_join 51 = .ok (.iload 5, 2) := by decide +kernel
theorem d_K_join_53 : decode b_K_join 53 = .ok (.invokevirtual 72, 3) := by decide +kernel
theorem d_K_join_56 : decode b_K_join 56 = .ok (.if_icmp .ne 16, 3) := by decide +kernel
theorem d_K_join_59 : decode b_K_join 59 = .ok (.iload_n 1, 1) := by decide +kernel
theorem d_K_join_60 : decode b_K_join 60 = .ok (.ifCond .ne 15, 3) := by decide +kernel
theorem d_K_join_63 : decode b_K_join 63 = .ok (.aload_n 0, 1) := by decide +kernel
theorem d_K_join_64 : decode b_K_join 64 = .ok (.iload 4, 2) := by decide +kernel
theorem d_K_join_66 : decode b_K_join 66 = .ok (.invokevirtual 72, 3) := by decide +kernel
theorem d_K_join_69 : decode b_K_join 69 = .ok (.ifCond .eq 6, 3) := by decide +kernel
theorem d_K_join_72 : decode b_K_join 72 = .ok (.bipush (-2), 2) := by decide +kernel
theorem d_K_join_74 : decode b_K_join 74 = .ok (.ireturn, 1) := by decide +kernel
theorem d_K_join_75 : decode b_K_join 75 = .ok (.aload_n 0, 1) := by decide +kernel
theorem d_K_join_76 : decode b_K_join 76 = .ok (.getfield 28, 3) := by decide +kernel
theorem d_K_join_79 : decode b_K_join 79 = .ok (.invokevirtual 47, 3) := by decide +kernel
theorem d_K_join_82 : decode b_K_join 82 = .ok (.aload_n 0, 1) := by decide +kernel
theorem d_K_join_83 : decode b_K_join 83 = .ok (.iload_n 1, 1) := by decide +kernel
theorem d_K_join_84 : decode b_K_join 84 = .ok (.ifCond .eq 8, 3) := by decide +kernel
theorem d_K_join_87 : decode b_K_join 87 = .ok (.bipush 7, 2) := by decide +kernel
theorem d_K_join_89 : decode b_K_join 89 = .ok (.goto 5, 3) := by decide +kernel
theorem d_K_join_92 : decode b_K_join 92 = .ok (.bipush 6, 2) := by decide +kernel
theorem d_K_join_94 : decode b_K_join 94 = .ok (.iload 4, 2) := by decide +kernel
theorem d_K_join_96 : decode b_K_join 96 = .ok (.iload 5, 2) := by decide +kernel
theorem d_K_join_98 : decode b_K_join 98 = .ok (.invokevirtual 103, 3) := by decide +kernel
theorem d_K_join_101 : decode b_K_join 101 = .ok (.aload_n 0, 1) := by decide +kernel
theorem d_K_join_102 : decode b_K_join 102 = .ok (.getfield 19, 3) := by decide +kernel
theorem d_K_join_105 : decode b_K_join 105 = .ok (.aload_n 0, 1) := by decide +kernel
theorem d_K_join_106 : decode b_K_join 106 = .ok (.getfield 28, 3) := by decide +kernel
theorem d_K_join_109 : decode b_K_join 109 = .ok (.invokevirtual 60, 3) := by decide +kernel
theorem d_K_join_112 : decode b_K_join 112 = .ok (.ireturn, 1) := by decide +kernel
theorem d_K_rule_0 : decode b_K_rule 0 = .ok (.iload_n 1, 1) := by decide +kernel
theorem d_K_rule_1 : decode b_K_rule 1 = .ok (.ifCond .lt 9, 3) := by decide +kernel
theorem d_K_rule_4 : decode b_K_rule 4 = .ok (.iload_n 1, 1) := by decide +kernel
theorem d_K_rule_5 : decode b_K_rule 5 = .ok (.bipush 14, 2) := by decide +kernel
theorem d_K_rule_7 : decode b_K_rule 7 = .ok (.if_icmp .lt 5, 3) := by decide +kernel
theorem d_K_rule_10 : decode b_K_rule 10 = .ok (.iconst (-1), 1) := by decide +kernel
theorem d_K_rule_11 : decode b_K_rule 11 = .ok (.ireturn, 1) := by decide +kernel
theorem d_K_rule_12 : decode b_K_rule 12 = .ok (.aload_n 0, 1) := by decide +kernel
theorem d_K_rule_13 : decode b_K_rule 13 = .ok (.getstatic 107, 3) := by decide +kernel
theorem d_K_rule_16 : decode b_K_rule 16 = .ok (.iload_n 1, 1) := by decide +kernel
theorem d_K_rule_17 : decode b_K_rule 17 = .ok (.iaload, 1) := by decide +kernel
theorem d_K_rule_18 : decode b_K_rule 18 = .ok (.iload_n 2, 1) := by decide +kernel
theorem d_K_rule_19 : decode b_K_rule 19 = .ok (.invokevirtual 111, 3) := by decide +kernel
theorem d_K_rule_22 : decode b_K_rule 22 = .ok (.ifCond .eq 16, 3) := by decide +kernel
theorem d_K_rule_25 : decode b_K_rule 25 = .ok (.aload_n 0, 1) := by decide +kernel
theorem d_K_rule_26 : decode b_K_rule 26 = .ok (.getstatic 114, 3) := by decide +kernel
theorem d_K_rule_29 : decode b_K_rule 29 = .ok (.iload_n 1, 1) := by decide +kernel
theorem d_K_rule_30 : decode b_K_rule 30 = .ok (.iaload, 1) := by decide +kernel
theorem d_K_rule_31 : decode b_K_rule 31 = .ok (.iload_n 3, 1) := by decide +kernel
theorem d_K_rule_32 : decode b_K_rule 32 = .ok (.invokevirtual 111, 3) := by decide +kernel
theorem d_K_rule_35 : decode b_K_rule 35 = .ok (.ifCond .ne 5, 3) := by decide +kernel
theorem d_K_rule_38 : decode b_K_rule 38 = .ok (.iconst (-1), 1) := by decide +kernel
theorem d_K_rule_39 : decode b_K_rule 39 = .ok (.ireturn, 1) := by decide +kernel
theorem d_K_rule_40 : decode b_K_rule 40 = .ok (.aload_n 0, 1) := by decide +kernel
theorem d_K_rule_41 : decode b_K_rule 41 = .ok (.iload_n 1, 1) := by decide +kernel
theorem d_K_rule_42 : decode b_K_rule 42 = .ok (.iload_n 2, 1) := by decide +kernel
theorem d_K_rule_43 : decode b_K_rule 43 = .ok (.iload_n 3, 1) := by decide +kernel
theorem d_K_rule_44 : decode b_K_rule 44 = .ok (.invokevirtual 117, 3) := by decide +kernel
theorem d_K_rule_47 : decode b_K_rule 47 = .ok (.ifCond .ne 6, 3) := by decide +kernel
theorem d_K_rule_50 : decode b_K_rule 50 = .ok (.bipush (-2), 2) := by decide +kernel
theorem d_K_rule_52 : decode b_K_rule 52 = .ok (.ireturn, 1) := by decide +kernel
theorem d_K_rule_53 : decode b_K_rule 53 = .ok (.aload_n 0, 1) := by decide +kernel
theorem d_K_rule_54 : decode b_K_rule 54 = .ok (.iload_n 1, 1) := by decide +kernel
theorem d_K_rule_55 : decode b_K_rule 55 = .ok (.iload_n 2, 1) := by decide +kernel
theorem d_K_rule_56 : decode b_K_rule 56 = .ok (.iload_n 3, 1) := by decide +kernel
theorem d_K_rule_57 : decode b_K_rule 57 = .ok (.invokevirtual 121, 3) := by decide +kernel
theorem d_K_rule_60 : decode b_K_rule 60 = .ok (.ifCond .eq 6, 3) := by decide +kernel
theorem d_K_rule_63 : decode b_K_rule 63 = .ok (.bipush (-3), 2) := by decide +kernel
theorem d_K_rule_65 : decode b_K_rule 65 = .ok (.ireturn, 1) := by decide +kernel
theorem d_K_rule_66 : decode b_K_rule 66 = .ok (.aload_n 0, 1) := by decide +kernel
theorem d_K_rule_67 : decode b_K_rule 67 = .ok (.getfield 35, 3) := by decide +kernel
theorem d_K_rule_70 : decode b_K_rule 70 = .ok (.invokevirtual 124, 3) := by decide +kernel
theorem d_K_rule_73 : decode b_K_rule 73 = .ok (.ifCond .eq 6, 3) := by decide +kernel
theorem d_K_rule_76 : decode b_K_rule 76 = .ok (.bipush (-4), 2) := by decide +kernel
theorem d_K_rule_78 : decode b_K_rule 78 = .ok (.ireturn, 1) := by decide +kernel
theorem d_K_rule_79 : decode b_K_rule 79 = .ok (.aload_n 0, 1) := by decide +kernel
theorem d_K_rule_80 : decode b_K_rule 80 = .ok (.iload_n 1, 1) := by decide +kernel
theorem d_K_rule_81 : decode b_K_rule 81 = .ok (.iload_n 2, 1) := by decide +kernel
theorem d_K_rule_82 : decode b_K_rule 82 = .ok (.iload_n 3, 1) := by decide +kernel
theorem d_K_rule_83 : decode b_K_rule 83 = .ok (.invokevirtual 128, 3) := by decide +kernel
theorem d_K_rule_86 : decode b_K_rule 86 = .ok (.ireturn, 1) := by decide +kernel
theorem d_K_terms_0 : decode b_K_terms 0 = .ok (.aload_n 0, 1) := by decide +kernel
theorem d_K_terms_1 : decode b_K_terms 1 = .ok (.getfield 19, 3) := by decide +kernel
theorem d_K_terms_4 : decode b_K_terms 4 = .ok (.invokevirtual 131, 3) := by decide +kernel
theorem d_K_terms_7 : decode b_K_terms 7 = .ok (.ireturn, 1) := by decide +kernel
theorem d_K_theorems_0 : decode b_K_theorems 0 = .ok (.aload_n 0, 1) := by decide +kernel
theorem d_K_theorems_1 : decode b_K_theorems 1 = .ok (.getfield 35, 3) := by decide +kernel
theorem d_K_theorems_4 : decode b_K_theorems 4 = .ok (.invokevirtual 132, 3) := by decide +kernel
theorem d_K_theorems_7 : decode b_K_theorems 7 = .ok (.ireturn, 1) := by decide +kernel
theorem d_K_typeOf_0 : decode b_K_typeOf 0 = .ok (.aload_n 0, 1) := by decide +kernel
theorem d_K_typeOf_1 : decode b_K_typeOf 1 = .ok (.getfield 19, 3) := by decide +kernel
theorem d_K_typeOf_4 : decode b_K_typeOf 4 = .ok (.iload_n 1, 1) := by decide +kernel
theorem d_K_typeOf_5 : decode b_K_typeOf 5 = .ok (.invokevirtual 68, 3) := by decide +kernel
theorem d_K_typeOf_8 : decode b_K_typeOf 8 = .ok (.ifCond .eq 18, 3) := by decide +kernel
theorem d_K_typeOf_11 : decode b_K_typeOf 11 = .ok (.aload_n 0, 1) := by decide +kernel
theorem d_K_typeOf_12 : decode b_K_typeOf 12 = .ok (.aload_n 0, 1) := by decide +kernel
theorem d_K_typeOf_13 : decode b_K_typeOf 13 = .ok (.getfield 19, 3) := by decide +kernel
theorem d_K_typeOf_16 : decode b_K_typeOf 16 = .ok (.iload_n 1, 1) := by decide +kernel
theorem d_K_typeOf_17 : decode b_K_typeOf 17 = .ok (.invokevirtual 69, 3) := by decide +kernel
theorem d_K_typeOf_20 : decode b_K_typeOf 20 = .ok (.invokevirtual 72, 3) := by decide +kernel
theorem d_K_typeOf_23 : decode b_K_typeOf 23 = .ok (.goto 4, 3) := by decide +kernel
theorem d_K_typeOf_26 : decode b_K_typeOf 26 = .ok (.iconst (-1), 1) := by decide +kernel
theorem d_K_typeOf_27 : decode b_K_typeOf 27 = .ok (.ireturn, 1) := by decide +kernel
theorem d_K_size_0 : decode b_K_size 0 = .ok (.aload_n 0, 1) := by decide +kernel
theorem d_K_size_1 : decode b_K_size 1 = .ok (.getfield 19, 3) := by decide +kernel
theorem d_K_size_4 : decode b_K_size 4 = .ok (.iload_n 1, 1) := by decide +kernel
theorem d_K_size_5 : decode b_K_size 5 = .ok (.invokevirtual 68, 3) := by decide +kernel
theorem d_K_size_8 : decode b_K_size 8 = .ok (.ifCond .eq 14, 3) := by decide +kernel
theorem d_K_size_11 : decode b_K_size 11 = .ok (.aload_n 0, 1) := by decide +kernel
theorem d_K_size_12 : decode b_K_size 12 = .ok (.getfield 19, 3) := by decide +kernel
theorem d_K_size_15 : decode b_K_size 15 = .ok (.iload_n 1, 1) := by decide +kernel
theorem d_K_size_16 : decode b_K_size 16 = .ok (.invokevirtual 133, 3) := by decide +kernel
theorem d_K_size_19 : decode b_K_size 19 = .ok (.goto 4, 3) := by decide +kernel
theorem d_K_size_22 : decode b_K_size 22 = .ok (.iconst (-1), 1) := by decide +kernel
theorem d_K_size_23 : decode b_K_size 23 = .ok (.ireturn, 1) := by decide +kernel
theorem d_K_free_0 : decode b_K_free 0 = .ok (.aload_n 0, 1) := by decide +kernel
theorem d_K_free_1 : decode b_K_free 1 = .ok (.getfield 19, 3) := by decide +kernel
theorem d_K_free_4 : decode b_K_free 4 = .ok (.iload_n 1, 1) := by decide +kernel
theorem d_K_free_5 : decode b_K_free 5 = .ok (.invokevirtual 68, 3) := by decide +kernel
theorem d_K_free_8 : decode b_K_free 8 = .ok (.ifCond .eq 30, 3) := by decide +kernel
theorem d_K_free_11 : decode b_K_free 11 = .ok (.aload_n 0, 1) := by decide +kernel
theorem d_K_free_12 : decode b_K_free 12 = .ok (.getfield 19, 3) := by decide +kernel
theorem d_K_free_15 : decode b_K_free 15 = .ok (.iload_n 2, 1) := by decide +kernel
theorem d_K_free_16 : decode b_K_free 16 = .ok (.invokevirtual 68, 3) := by decide +kernel
theorem d_K_free_19 : decode b_K_free 19 = .ok (.ifCond .eq 19, 3) := by decide +kernel
theorem d_K_free_22 : decode b_K_free 22 = .ok (.aload_n 0, 1) := by decide +kernel
theorem d_K_free_23 : decode b_K_free 23 = .ok (.iconst 0, 1) := by decide +kernel
theorem d_K_free_24 : decode b_K_free 24 = .ok (.aload_n 0, 1) := by decide +kernel
theorem d_K_free_25 : decode b_K_free 25 = .ok (.getfield 19, 3) := by decide +kernel
theorem d_K_free_28 : decode b_K_free 28 = .ok (.iload_n 1, 1) := by decide +kernel
theorem d_K_free_29 : decode b_K_free 29 = .ok (.invokevirtual 69, 3) := by decide +kernel
theorem d_K_free_32 : decode b_K_free 32 = .ok (.invokevirtual 83, 3) := by decide +kernel
theorem d_K_free_35 : decode b_K_free 35 = .ok (.ifCond .ne 5, 3) := by decide +kernel
theorem d_K_free_38 : decode b_K_free 38 = .ok (.iconst 0, 1) := by decide +kernel
theorem d_K_free_39 : decode b_K_free 39 = .ok (.ireturn, 1) := by decide +kernel
theorem d_K_free_40 : decode b_K_free 40 = .ok (.aload_n 0, 1) := by decide +kernel
theorem d_K_free_41 : decode b_K_free 41 = .ok (.getfield 19, 3) := by decide +kernel
theorem d_K_free_44 : decode b_K_free 44 = .ok (.iload_n 2, 1) := by decide +kernel
theorem d_K_free_45 : decode b_K_free 45 = .ok (.aload_n 0, 1) := by decide +kernel
theorem d_K_free_46 : decode b_K_free 46 = .ok (.getfield 19, 3) := by decide +kernel
theorem d_K_free_49 : decode b_K_free 49 = .ok (.aload_n 0, 1) := by decide +kernel
theorem d_K_free_50 : decode b_K_free 50 = .ok (.getfield 19, 3) := by decide +kernel
theorem d_K_free_53 : decode b_K_free 53 = .ok (.iload_n 1, 1) := by decide +kernel
theorem d_K_free_54 : decode b_K_free 54 = .ok (.invokevirtual 69, 3) := by decide +kernel
theorem d_K_free_57 : decode b_K_free 57 = .ok (.invokevirtual 90, 3) := by decide +kernel
theorem d_K_free_60 : decode b_K_free 60 = .ok (.invokevirtual 136, 3) := by decide +kernel
theorem d_K_free_63 : decode b_K_free 63 = .ok (.ireturn, 1) := by decide +kernel
theorem d_K_printed_0 : decode b_K_printed 0 = .ok (.aload_n 0, 1) := by decide +kernel
theorem d_K_printed_1 : decode b_K_printed 1 = .ok (.getfield 19, 3) := by decide +kernel
theorem d_K_printed_4 : decode b_K_printed 4 = .ok (.iload_n 1, 1) := by decide +kernel
theorem d_K_printed_5 : decode b_K_printed 5 = .ok (.invokevirtual 68, 3) := by decide +kernel
theorem d_K_printed_8 : decode b_K_printed 8 = .ok (.ifCond .ne 5, 3) := by decide +kernel
theorem d_K_printed_11 : decode b_K_printed 11 = .ok (.iconst (-1), 1) := by decide +kernel
theorem d_K_printed_12 : decode b_K_printed 12 = .ok (.ireturn, 1) := by decide +kernel
theorem d_K_printed_13 : decode b_K_printed 13 = .ok (.aload_n 0, 1) := by decide +kernel
theorem d_K_printed_14 : decode b_K_printed 14 = .ok (.getfield 19, 3) := by decide +kernel
theorem d_K_printed_17 : decode b_K_printed 17 = .ok (.iload_n 1, 1) := by decide +kernel
theorem d_K_printed_18 : decode b_K_printed 18 = .ok (.invokevirtual 69, 3) := by decide +kernel
theorem d_K_printed_21 : decode b_K_printed 21 = .ok (.aload_n 0, 1) := by decide +kernel
theorem d_K_printed_22 : decode b_K_printed 22 = .ok (.getfield 19, 3) := by decide +kernel
theorem d_K_printed_25 : decode b_K_printed 25 = .ok (.iload_n 1, 1) := by decide +kernel
theorem d_K_printed_26 : decode b_K_printed 26 = .ok (.invokevirtual 133, 3) := by decide +kernel
theorem d_K_printed_29 : decode b_K_printed 29 = .ok (.iadd, 1) := by decide +kernel
theorem d_K_printed_30 : decode b_K_printed 30 = .ok (.istore_n 3, 1) := by decide +kernel
theorem d_K_printed_31 : decode b_K_printed 31 = .ok (.iconst 0, 1) := by decide +kernel
theorem d_K_printed_32 : decode b_K_printed 32 = .ok (.istore 4, 2) := by decide +kernel
theorem d_K_printed_34 : decode b_K_printed 34 = .ok (.aload_n 0, 1) := by decide +kernel
theorem d_K_printed_35 : decode b_K_printed 35 = .ok (.getfield 19, 3) := by decide +kernel
theorem d_K_printed_38 : decode b_K_printed 38 = .ok (.iload_n 1, 1) := by decide +kernel
theorem d_K_printed_39 : decode b_K_printed 39 = .ok (.invokevirtual 69, 3) := by decide +kernel
theorem d_K_printed_42 : decode b_K_printed 42 = .ok (.istore 5, 2) := by decide +kernel
theorem d_K_printed_44 : decode b_K_printed 44 = .ok (.iload 5, 2) := by decide +kernel
theorem d_K_printed_46 : decode b_K_printed 46 = .ok (.iload_n 3, 1) := by decide +kernel
theorem d_K_printed_47 : decode b_K_printed 47 = .ok (.if_icmp .ge 58, 3) := by decide +kernel
theorem d_K_printed_50 : decode b_K_printed 50 = .ok (.aload_n 0, 1) := by decide +kernel
theorem d_K_printed_51 : decode b_K_printed 51 = .ok (.getfield 19, 3) := by decide +kernel
theorem d_K_printed_54 : decode b_K_printed 54 = .ok (.iload 5, 2) := by decide +kernel
theorem d_K_printed_56 : decode b_K_printed 56 = .ok (.invokevirtual 90, 3) := by decide +kernel
theorem d_K_printed_59 : decode b_K_printed 59 = .ok (.istore 6, 2) := by decide +kernel
theorem d_K_printed_61 : decode b_K_printed 61 = .ok (.iload_n 2, 1) := by decide +kernel
theorem d_K_printed_62 : decode b_K_printed 62 = .ok (.iload 4, 2) := by decide +kernel
theorem d_K_printed_64 : decode b_K_printed 64 = .ok (.if_icmp .ne 9, 3) := by decide +kernel
theorem d_K_printed_67 : decode b_K_printed 67 = .ok (.iload 6, 2) := by decide +kernel
theorem d_K_printed_69 : decode b_K_printed 69 = .ok (.invokestatic 139, 3) := by decide +kernel
theorem d_K_printed_72 : decode b_K_printed 72 = .ok (.ireturn, 1) := by decide +kernel
theorem d_K_printed_73 : decode b_K_printed 73 = .ok (.iinc 4 1, 3) := by decide +kernel
theorem d_K_printed_76 : decode b_K_printed 76 = .ok (.iload 6, 2) := by decide +kernel
theorem d_K_printed_78 : decode b_K_printed 78 = .ok (.invokestatic 142, 3) := by decide +kernel
theorem d_K_printed_81 : decode b_K_printed 81 = .ok (.ifCond .eq 18, 3) := by decide +kernel
theorem d_K_printed_84 : decode b_K_printed 84 = .ok (.iload_n 2, 1) := by decide +kernel
theorem d_K_printed_85 : decode b_K_printed 85 = .ok (.iload 4, 2) := by decide +kernel
theorem d_K_printed_87 : decode b_K_printed 87 = .ok (.if_icmp .ne 9, 3) := by decide +kernel
theorem d_K_printed_90 : decode b_K_printed 90 = .ok (.iload 6, 2) := by decide +kernel
theorem d_K_printed_92 : decode b_K_printed 92 = .ok (.invokestatic 145, 3) := by decide +kernel
theorem d_K_printed_95 : decode b_K_printed 95 = .ok (.ireturn, 1) := by decide +kernel
theorem d_K_printed_96 : decode b_K_printed 96 = .ok (.iinc 4 1, 3) := by decide +kernel
theorem d_K_printed_99 : decode b_K_printed 99 = .ok (.iinc 5 1, 3) := by decide +kernel
theorem d_K_printed_102 : decode b_K_printed 102 = .ok (.goto (-58), 3) := by decide +kernel
theorem d_K_printed_105 : decode b_K_printed 105 = .ok (.iload_n 2, 1) := by decide +kernel
theorem d_K_printed_106 : decode b_K_printed 106 = .ok (.iconst (-1), 1) := by decide +kernel
theorem d_K_printed_107 : decode b_K_printed 107 = .ok (.if_icmp .ne 8, 3) := by decide +kernel
theorem d_K_printed_110 : decode b_K_printed 110 = .ok (.iload 4, 2) := by decide +kernel
theorem d_K_printed_112 : decode b_K_printed 112 = .ok (.goto 4, 3) := by decide +kernel
theorem d_K_printed_115 : decode b_K_printed 115 = .ok (.iconst (-1), 1) := by decide +kernel
theorem d_K_printed_116 : decode b_K_printed 116 = .ok (.ireturn, 1) := by decide +kernel
theorem d_K_conclusion_0 : decode b_K_conclusion 0 = .ok (.aload_n 0, 1) := by decide +kernel
theorem d_K_conclusion_1 : decode b_K_conclusion 1 = .ok (.getfield 35, 3) := by decide +kernel
theorem d_K_conclusion_4 : decode b_K_conclusion 4 = .ok (.iload_n 1, 1) := by decide +kernel
theorem d_K_conclusion_5 : decode b_K_conclusion 5 = .ok (.invokevirtual 148, 3) := by decide +kernel
theorem d_K_conclusion_8 : decode b_K_conclusion 8 = .ok (.ifCond .eq 14, 3) := by decide +kernel
theorem d_K_conclusion_11 : decode b_K_conclusion 11 = .ok (.aload_n 0, 1) := by decide +kernel
theorem d_K_conclusion_12 : decode b_K_conclusion 12 = .ok (.getfield 35, 3) := by decide +kernel
theorem d_K_conclusion_15 : decode b_K_conclusion 15 = .ok (.iload_n 1, 1) := by decide +kernel
theorem d_K_conclusion_16 : decode b_K_conclusion 16 = .ok (.invokevirtual 149, 3) := by decide +kernel
theorem d_K_conclusion_19 : decode b_K_conclusion 19 = .ok (.goto 4, 3) := by decide +kernel
theorem d_K_conclusion_22 : decode b_K_conclusion 22 = .ok (.iconst (-1), 1) := by decide +kernel
theorem d_K_conclusion_23 : decode b_K_conclusion 23 = .ok (.ireturn, 1) := by decide +kernel
theorem d_K_hypotheses_0 : decode b_K_hypotheses 0 = .ok (.aload_n 0, 1) := by decide +kernel
theorem d_K_hypotheses_1 : decode b_K_hypotheses 1 = .ok (.getfield 35, 3) := by decide +kernel
theorem d_K_hypotheses_4 : decode b_K_hypotheses 4 = .ok (.iload_n 1, 1) := by decide +kernel
theorem d_K_hypotheses_5 : decode b_K_hypotheses 5 = .ok (.invokevirtual 148, 3) := by decide +kernel
theorem d_K_hypotheses_8 : decode b_K_hypotheses 8 = .ok (.ifCond .eq 14, 3) := by decide +kernel
theorem d_K_hypotheses_11 : decode b_K_hypotheses 11 = .ok (.aload_n 0, 1) := by decide +kernel
theorem d_K_hypotheses_12 : decode b_K_hypotheses 12 = .ok (.getfield 35, 3) := by decide +kernel
theorem d_K_hypotheses_15 : decode b_K_hypotheses 15 = .ok (.iload_n 1, 1) := by decide +kernel
theorem d_K_hypotheses_16 : decode b_K_hypotheses 16 = .ok (.invokevirtual 152, 3) := by decide +kernel
theorem d_K_hypotheses_19 : decode b_K_hypotheses 19 = .ok (.goto 6, 3) := by decide +kernel
theorem d_K_hypotheses_22 : decode b_K_hypotheses 22 = .ok (.ldc2_w 156, 3) := by decide +kernel
theorem d_K_hypotheses_25 : decode b_K_hypotheses 25 = .ok (.lreturn, 1) := by decide +kernel
theorem d_K_axioms_0 : decode b_K_axioms 0 = .ok (.aload_n 0, 1) := by decide +kernel
theorem d_K_axioms_1 : decode b_K_axioms 1 = .ok (.getfield 35, 3) := by decide +kernel
theorem d_K_axioms_4 : decode b_K_axioms 4 = .ok (.iload_n 1, 1) := by decide +kernel
theorem d_K_axioms_5 : decode b_K_axioms 5 = .ok (.invokevirtual 148, 3) := by decide +kernel
theorem d_K_axioms_8 : decode b_K_axioms 8 = .ok (.ifCond .eq 14, 3) := by decide +kernel
theorem d_K_axioms_11 : decode b_K_axioms 11 = .ok (.aload_n 0, 1) := by decide +kernel
theorem d_K_axioms_12 : decode b_K_axioms 12 = .ok (.getfield 35, 3) := by decide +kernel
theorem d_K_axioms_15 : decode b_K_axioms 15 = .ok (.iload_n 1, 1) := by decide +kernel
theorem d_K_axioms_16 : decode b_K_axioms 16 = .ok (.invokevirtual 158, 3) := by decide +kernel
theorem d_K_axioms_19 : decode b_K_axioms 19 = .ok (.goto 6, 3) := by decide +kernel
theorem d_K_axioms_22 : decode b_K_axioms 22 = .ok (.ldc2_w 156, 3) := by decide +kernel
theorem d_K_axioms_25 : decode b_K_axioms 25 = .ok (.lreturn, 1) := by decide +kernel
theorem d_K_steps_0 : decode b_K_steps 0 = .ok (.aload_n 0, 1) := by decide +kernel
theorem d_K_steps_1 : decode b_K_steps 1 = .ok (.getfield 35, 3) := by decide +kernel
theorem d_K_steps_4 : decode b_K_steps 4 = .ok (.iload_n 1, 1) := by decide +kernel
theorem d_K_steps_5 : decode b_K_steps 5 = .ok (.invokevirtual 148, 3) := by decide +kernel
theorem d_K_steps_8 : decode b_K_steps 8 = .ok (.ifCond .eq 14, 3) := by decide +kernel
theorem d_K_steps_11 : decode b_K_steps 11 = .ok (.aload_n 0, 1) := by decide +kernel
theorem d_K_steps_12 : decode b_K_steps 12 = .ok (.getfield 35, 3) := by decide +kernel
theorem d_K_steps_15 : decode b_K_steps 15 = .ok (.iload_n 1, 1) := by decide +kernel
theorem d_K_steps_16 : decode b_K_steps 16 = .ok (.invokevirtual 161, 3) := by decide +kernel
theorem d_K_steps_19 : decode b_K_steps 19 = .ok (.goto 4, 3) := by decide +kernel
theorem d_K_steps_22 : decode b_K_steps 22 = .ok (.iconst (-1), 1) := by decide +kernel
theorem d_K_steps_23 : decode b_K_steps 23 = .ok (.ireturn, 1) := by decide +kernel
theorem d_K_typeAt_0 : decode b_K_typeAt 0 = .ok (.aload_n 0, 1) := by decide +kernel
theorem d_K_typeAt_1 : decode b_K_typeAt 1 = .ok (.getfield 19, 3) := by decide +kernel
theorem d_K_typeAt_4 : decode b_K_typeAt 4 = .ok (.iload_n 1, 1) := by decide +kernel
theorem d_K_typeAt_5 : decode b_K_typeAt 5 = .ok (.invokevirtual 90, 3) := by decide +kernel
theorem d_K_typeAt_8 : decode b_K_typeAt 8 = .ok (.invokestatic 164, 3) := by decide +kernel
theorem d_K_typeAt_11 : decode b_K_typeAt 11 = .ok (.ireturn, 1) := by decide +kernel
theorem d_K_isA_0 : decode b_K_isA 0 = .ok (.aload_n 0, 1) := by decide +kernel
theorem d_K_isA_1 : decode b_K_isA 1 = .ok (.getfield 19, 3) := by decide +kernel
theorem d_K_isA_4 : decode b_K_isA 4 = .ok (.iload_n 2, 1) := by decide +kernel
theorem d_K_isA_5 : decode b_K_isA 5 = .ok (.invokevirtual 90, 3) := by decide +kernel
theorem d_K_isA_8 : decode b_K_isA 8 = .ok (.invokestatic 167, 3) := by decide +kernel
theorem d_K_isA_11 : decode b_K_isA 11 = .ok (.iload_n 1, 1) := by decide +kernel
theorem d_K_isA_12 : decode b_K_isA 12 = .ok (.if_icmp .ne 7, 3) := by decide +kernel
theorem d_K_isA_15 : decode b_K_isA 15 = .ok (.iconst 1, 1) := by decide +kernel
theorem d_K_isA_16 : decode b_K_isA 16 = .ok (.goto 4, 3) := by decide +kernel
theorem d_K_isA_19 : decode b_K_isA 19 = .ok (.iconst 0, 1) := by decide +kernel
theorem d_K_isA_20 : decode b_K_isA 20 = .ok (.ireturn, 1) := by decide +kernel
theorem d_K_declaredType_0 : decode b_K_declaredType 0 = .ok (.iconst 0, 1) := by decide +kernel
theorem d_K_declaredType_1 : decode b_K_declaredType 1 = .ok (.istore_n 2, 1) := by decide +kernel
theorem d_K_declaredType_2 : decode b_K_declaredType 2 = .ok (.iload_n 2, 1) := by decide +kernel
theorem d_K_declaredType_3 : decode b_K_declaredType 3 = .ok (.aload_n 0, 1) := by decide +kernel
theorem d_K_declaredType_4 : decode b_K_declaredType 4 = .ok (.getfield 19, 3) := by decide +kernel
theorem d_K_declaredType_7 : decode b_K_declaredType 7 = .ok (.invokevirtual 131, 3) := by decide +kernel
theorem d_K_declaredType_10 : decode b_K_declaredType 10 = .ok (.if_icmp .ge 46, 3) := by decide +kernel
theorem d_K_declaredType_13 : decode b_K_declaredType 13 = .ok (.aload_n 0, 1) := by decide +kernel
theorem d_K_declaredType_14 : decode b_K_declaredType 14 = .ok (.getfield 19, 3) := by decide +kernel
theorem d_K_declaredType_17 : decode b_K_declaredType 17 = .ok (.aload_n 0, 1) := by decide +kernel
theorem d_K_declaredType_18 : decode b_K_declaredType 18 = .ok (.getfield 19, 3) := by decide +kernel
theorem d_K_declaredType_21 : decode b_K_declaredType 21 = .ok (.iload_n 2, 1) := by decide +kernel
theorem d_K_declaredType_22 : decode b_K_declaredType 22 = .ok (.invokevirtual 69, 3) := by decide +kernel
theorem d_K_declaredType_25 : decode b_K_declaredType 25 = .ok (.invokevirtual 90, 3) := by decide +kernel
theorem d_K_declaredType_28 : decode b_K_declaredType 28 = .ok (.istore_n 3, 1) := by decide +kernel
theorem d_K_declaredType_29 : decode b_K_declaredType 29 = .ok (.iload_n 3, 1) := by decide +kernel
theorem d_K_declaredType_30 : decode b_K_declaredType 30 = .ok (.invokestatic 167, 3) := by decide +kernel
theorem d_K_declaredType_33 : decode b_K_declaredType 33 = .ok (.iconst 1, 1) := by decide +kernel
theorem d_K_declaredType_34 : decode b_K_declaredType 34 = .ok (.if_icmp .ne 16, 3) := by decide +kernel
theorem d_K_declaredType_37 : decode b_K_declaredType 37 = .ok (.iload_n 3, 1) := by decide +kernel
theorem d_K_declaredType_38 : decode b_K_declaredType 38 = .ok (.invokestatic 170, 3) := by decide +kernel
theorem d_K_declaredType_41 : decode b_K_declaredType 41 = .ok (.iload_n 1, 1) := by decide +kernel
theorem d_K_declaredType_42 : decode b_K_declaredType 42 = .ok (.if_icmp .ne 8, 3) := by decide +kernel
theorem d_K_declaredType_45 : decode b_K_declaredType 45 = .ok (.iload_n 3, 1) := by decide +kernel
theorem d_K_declaredType_46 : decode b_K_declaredType 46 = .ok (.invokestatic 164, 3) := by decide +kernel
theorem d_K_declaredType_49 : decode b_K_declaredType 49 = .ok (.ireturn, 1) := by decide +kernel
theorem d_K_declaredType_50 : decode b_K_declaredType 50 = .ok (.iinc 2 1, 3) := by decide +kernel
theorem d_K_declaredType_53 : decode b_K_declaredType 53 = .ok (.goto (-51), 3) := by decide +kernel
theorem d_K_declaredType_56 : decode b_K_declaredType 56 = .ok (.iconst (-1), 1) := by decide +kernel
theorem d_K_declaredType_57 : decode b_K_declaredType 57 = .ok (.ireturn, 1) := by decide +kernel
theorem d_K_draftApplication_0 : decode b_K_draftApplication 0 = .ok (.aload_n 0, 1) := by decide +kernel
theorem d_K_draftApplication_1 : decode b_K_draftApplication 1 = .ok (.getfield 28, 3) := by decide +kernel
theorem d_K_draftApplication_4 : decode b_K_draftApplication 4 = .ok (.iconst 5, 1) := by decide +kernel
theorem d_K_draftApplication_5 : decode b_K_draftApplication 5 = .ok (.iconst 0, 1) := by decide +kernel
theorem d_K_draftApplication_6 : decode b_K_draftApplication 6 = .ok (.aload_n 0, 1) := by decide +kernel
theorem d_K_draftApplication_7 : decode b_K_draftApplication 7 = .ok (.getfield 10, 3) := by decide +kernel
theorem d_K_draftApplication_10 : decode b_K_draftApplication 10 = .ok (.aload_n 0, 1) := by decide +kernel
theorem d_K_draftApplication_11 : decode b_K_draftApplication 11 = .ok (.iload_n 1, 1) := by decide +kernel
theorem d_K_draftApplication_12 : decode b_K_draftApplication 12 = .ok (.invokevirtual 72, 3) := by decide +kernel
theorem d_K_draftApplication_15 : decode b_K_draftApplication 15 = .ok (.invokevirtual 173, 3) := by decide +kernel
theorem d_K_draftApplication_18 : decode b_K_draftApplication 18 = .ok (.invokestatic 50, 3) := by decide +kernel
theorem d_K_draftApplication_21 : decode b_K_draftApplication 21 = .ok (.invokevirtual 56, 3) := by decide +kernel
theorem d_K_draftApplication_24 : decode b_K_draftApplication 24 = .ok (.aload_n 0, 1) := by decide +kernel
theorem d_K_draftApplication_25 : decode b_K_draftApplication 25 = .ok (.getfield 28, 3) := by decide +kernel
theorem d_K_draftApplication_28 : decode b_K_draftApplication 28 = .ok (.iload_n 1, 1) := by decide +kernel
theorem d_K_draftApplication_29 : decode b_K_draftApplication 29 = .ok (.invokevirtual 176, 3) := by decide +kernel
theorem d_K_draftApplication_32 : decode b_K_draftApplication 32 = .ok (.aload_n 0, 1) := by decide +kernel
theorem d_K_draftApplication_33 : decode b_K_draftApplication 33 = .ok (.getfield 28, 3) := by decide +kernel
theorem d_K_draftApplication_36 : decode b_K_draftApplication 36 = .ok (.iload_n 2, 1) := by decide +kernel
theorem d_K_draftApplication_37 : decode b_K_draftApplication 37 = .ok (.invokevirtual 176, 3) := by decide +kernel
theorem d_K_draftApplication_40 : decode b_K_draftApplication 40 = .ok (.return_, 1) := by decide +kernel
theorem d_K_draftAbstraction_0 : decode b_K_draftAbstraction 0 = .ok (.aload_n 0, 1) := by decide +kernel
theorem d_K_draftAbstraction_1 : decode b_K_draftAbstraction 1 = .ok (.getfield 10, 3) := by decide +kernel
theorem d_K_draftAbstraction_4 : decode b_K_draftAbstraction 4 = .ok (.aload_n 0, 1) := by decide +kernel
theorem d_K_draftAbstraction_5 : decode b_K_draftAbstraction 5 = .ok (.iload_n 1, 1) := by decide +kernel
theorem d_K_draftAbstraction_6 : decode b_K_draftAbstraction 6 = .ok (.invokevirtual 72, 3) := by decide +kernel
theorem d_K_draftAbstraction_9 : decode b_K_draftAbstraction 9 = .ok (.aload_n 0, 1) := by decide +kernel
theorem d_K_draftAbstraction_10 : decode b_K_draftAbstraction 10 = .ok (.iload_n 2, 1) := by decide +kernel
theorem d_K_draftAbstraction_11 : decode b_K_draftAbstraction 11 = .ok (.invokevirtual 72, 3) := by decide +kernel
theorem d_K_draftAbstraction_14 : decode b_K_draftAbstraction 14 = .ok (.invokevirtual 43, 3) := by decide +kernel
theorem d_K_draftAbstraction_17 : decode b_K_draftAbstraction 17 = .ok (.istore_n 3, 1) := by decide +kernel
theorem d_K_draftAbstraction_18 : decode b_K_draftAbstraction 18 = .ok (.iload_n 3, 1) := by decide +kernel
theorem d_K_draftAbstraction_19 : decode b_K_draftAbstraction 19 = .ok (.bipush (-4), 2) := by decide +kernel
theorem d_K_draftAbstraction_21 : decode b_K_draftAbstraction 21 = .ok (.if_icmp .ne 13, 3) := by decide +kernel
theorem d_K_draftAbstraction_24 : decode b_K_draftAbstraction 24 = .ok (.aload_n 0, 1) := by decide +kernel
theorem d_K_draftAbstraction_25 : decode b_K_draftAbstraction 25 = .ok (.getfield 28, 3) := by decide +kernel
theorem d_K_draftAbstraction_28 : decode b_K_draftAbstraction 28 = .ok (.invokevirtual 179, 3) := by decide +kernel
theorem d_K_draftAbstraction_31 : decode b_K_draftAbstraction 31 = .ok (.goto 21, 3) := by decide +kernel
theorem d_K_draftAbstraction_34 : decode b_K_draftAbstraction 34 = .ok (.aload_n 0, 1) := by decide +kernel
theorem d_K_draftAbstraction_35 : decode b_K_draftAbstraction 35 = .ok (.getfield 28, 3) := by decide +kernel
theorem d_K_draftAbstraction_38 : decode b_K_draftAbstraction 38 = .ok (.iconst 3, 1) := by decide +kernel
theorem d_K_draftAbstraction_39 : decode b_K_draftAbstraction 39 = .ok (.iload_n 3, 1) := by decide +kernel
theorem d_K_draftAbstraction_40 : decode b_K_draftAbstraction 40 = .ok (.aload_n 0, 1) := by decide +kernel
theorem d_K_draftAbstraction_41 : decode b_K_draftAbstraction 41 = .ok (.getfield 19, 3) := by decide +kernel
theorem d_K_draftAbstraction_44 : decode b_K_draftAbstraction 44 = .ok (.iload_n 1, 1) := by decide +kernel
theorem d_K_draftAbstraction_45 : decode b_K_draftAbstraction 45 = .ok (.invokevirtual 90, 3) := by decide +kernel
theorem d_K_draftAbstraction_48 : decode b_K_draftAbstraction 48 = .ok (.iload_n 2, 1) := by decide +kernel
theorem d_K_draftAbstraction_49 : decode b_K_draftAbstraction 49 = .ok (.invokevirtual 93, 3) := by decide +kernel
theorem d_K_draftAbstraction_52 : decode b_K_draftAbstraction 52 = .ok (.return_, 1) := by decide +kernel
theorem d_K_draftJoint_0 : decode b_K_draftJoint 0 = .ok (.aload_n 0, 1) := by decide +kernel
theorem d_K_draftJoint_1 : decode b_K_draftJoint 1 = .ok (.getfield 28, 3) := by decide +kernel
theorem d_K_draftJoint_4 : decode b_K_draftJoint 4 = .ok (.iload_n 1, 1) := by decide +kernel
theorem d_K_draftJoint_5 : decode b_K_draftJoint 5 = .ok (.iconst 0, 1) := by decide +kernel
theorem d_K_draftJoint_6 : decode b_K_draftJoint 6 = .ok (.iconst 0, 1) := by decide +kernel
theorem d_K_draftJoint_7 : decode b_K_draftJoint 7 = .ok (.invokestatic 50, 3) := by decide +kernel
theorem d_K_draftJoint_10 : decode b_K_draftJoint 10 = .ok (.invokevirtual 56, 3) := by decide +kernel
theorem d_K_draftJoint_13 : decode b_K_draftJoint 13 = .ok (.aload_n 0, 1) := by decide +kernel
theorem d_K_draftJoint_14 : decode b_K_draftJoint 14 = .ok (.getfield 28, 3) := by decide +kernel
theorem d_K_draftJoint_17 : decode b_K_draftJoint 17 = .ok (.iload_n 2, 1) := by decide +kernel
theorem d_K_draftJoint_18 : decode b_K_draftJoint 18 = .ok (.invokevirtual 176, 3) := by decide +kernel
theorem d_K_draftJoint_21 : decode b_K_draftJoint 21 = .ok (.aload_n 0, 1) := by decide +kernel
theorem d_K_draftJoint_22 : decode b_K_draftJoint 22 = .ok (.getfield 28, 3) := by decide +kernel
theorem d_K_draftJoint_25 : decode b_K_draftJoint 25 = .ok (.iload_n 3, 1) := by decide +kernel
theorem d_K_draftJoint_26 : decode b_K_draftJoint 26 = .ok (.invokevirtual 176, 3) := by decide +kernel
theorem d_K_draftJoint_29 : decode b_K_draftJoint 29 = .ok (.return_, 1) := by decide +kernel
theorem d_K_isThere_0 : decode b_K_isThere 0 = .ok (.iload_n 1, 1) := by decide +kernel
theorem d_K_isThere_1 : decode b_K_isThere 1 = .ok (.tableswitch 83 1 3 #[27, 36, 45], 27) := by decide +kernel
theorem d_K_isThere_28 : decode b_K_isThere 28 = .ok (.aload_n 0, 1) := by decide +kernel
theorem d_K_isThere_29 : decode b_K_isThere 29 = .ok (.getfield 19, 3) := by decide +kernel
theorem d_K_isThere_32 : decode b_K_isThere 32 = .ok (.iload_n 2, 1) := by decide +kernel
theorem d_K_isThere_33 : decode b_K_isThere 33 = .ok (.invokevirtual 68, 3) := by decide +kernel
theorem d_K_isThere_36 : decode b_K_isThere 36 = .ok (.ireturn, 1) := by decide +kernel
theorem d_K_isThere_37 : decode b_K_isThere 37 = .ok (.aload_n 0, 1) := by decide +kernel
theorem d_K_isThere_38 : decode b_K_isThere 38 = .ok (.getfield 35, 3) := by decide +kernel
theorem d_K_isThere_41 : decode b_K_isThere 41 = .ok (.iload_n 2, 1) := by decide +kernel
theorem d_K_isThere_42 : decode b_K_isThere 42 = .ok (.invokevirtual 148, 3) := by decide +kernel
theorem d_K_isThere_45 : decode b_K_isThere 45 = .ok (.ireturn, 1) := by decide +kernel
theorem d_K_isThere_46 : decode b_K_isThere 46 = .ok (.iload_n 2, 1) := by decide +kernel
theorem d_K_isThere_47 : decode b_K_isThere 47 = .ok (.ifCond .lt 35, 3) := by decide +kernel
theorem d_K_isThere_50 : decode b_K_isThere 50 = .ok (.aload_n 0, 1) := by decide +kernel
theorem d_K_isThere_51 : decode b_K_isThere 51 = .ok (.getfield 19, 3) := by decide +kernel
theorem d_K_isThere_54 : decode b_K_isThere 54 = .ok (.iload_n 2, 1) := by decide +kernel
theorem d_K_isThere_55 : decode b_K_isThere 55 = .ok (.bipush 64, 2) := by decide +kernel
theorem d_K_isThere_57 : decode b_K_isThere 57 = .ok (.idiv, 1) := by decide +kernel
theorem d_K_isThere_58 : decode b_K_isThere 58 = .ok (.invokevirtual 68, 3) := by decide +kernel
theorem d_K_isThere_61 : decode b_K_isThere 61 = .ok (.ifCond .eq 21, 3) := by decide +kernel
theorem d_K_isThere_64 : decode b_K_isThere 64 = .ok (.aload_n 0, 1) := by decide +kernel
theorem d_K_isThere_65 : decode b_K_isThere 65 = .ok (.getfield 19, 3) := by decide +kernel
theorem d_K_isThere_68 : decode b_K_isThere 68 = .ok (.iload_n 2, 1) := by decide +kernel
theorem d_K_isThere_69 : decode b_K_isThere 69 = .ok (.bipush 64, 2) := by decide +kernel
theorem d_K_isThere_71 : decode b_K_isThere 71 = .ok (.irem, 1) := by decide +kernel
theorem d_K_isThere_72 : decode b_K_isThere 72 = .ok (.invokevirtual 68, 3) := by decide +kernel
theorem d_K_isThere_75 : decode b_K_isThere 75 = .ok (.ifCond .eq 7, 3) := by decide +kernel
theorem d_K_isThere_78 : decode b_K_isThere 78 = .ok (.iconst 1, 1) := by decide +kernel
theorem d_K_isThere_79 : decode b_K_isThere 79 = .ok (.goto 4, 3) := by decide +kernel
theorem d_K_isThere_82 : decode b_K_isThere 82 = .ok (.iconst 0, 1) := by decide +kernel
theorem d_K_isThere_83 : decode b_K_isThere 83 = .ok (.ireturn, 1) := by decide +kernel
theorem d_K_isThere_84 : decode b_K_isThere 84 = .ok (.iconst 1, 1) := by decide +kernel
theorem d_K_isThere_85 : decode b_K_isThere 85 = .ok (.ireturn, 1) := by decide +kernel
theorem d_K_startOf_0 : decode b_K_startOf 0 = .ok (.iload_n 1, 1) := by decide +kernel
theorem d_K_startOf_1 : decode b_K_startOf 1 = .ok (.tableswitch 64 1 3 #[27, 36, 52], 27) := by decide +kernel
theorem d_K_startOf_28 : decode b_K_startOf 28 = .ok (.aload_n 0, 1) := by decide +kernel
theorem d_K_startOf_29 : decode b_K_startOf 29 = .ok (.getfield 19, 3) := by decide +kernel
theorem d_K_startOf_32 : decode b_K_startOf 32 = .ok (.iload_n 2, 1) := by decide +kernel
theorem d_K_startOf_33 : decode b_K_startOf 33 = .ok (.invokevirtual 69, 3) := by decide +kernel
theorem d_K_startOf_36 : decode b_K_startOf 36 = .ok (.ireturn, 1) := by decide +kernel
theorem d_K_startOf_37 : decode b_K_startOf 37 = .ok (.aload_n 0, 1) := by decide +kernel
theorem d_K_startOf_38 : decode b_K_startOf 38 = .ok (.getfield 19, 3) := by decide +kernel
theorem d_K_startOf_41 : decode b_K_startOf 41 = .ok (.aload_n 0, 1) := by decide +kernel
theorem d_K_startOf_42 : decode b_K_startOf 42 = .ok (.getfield 35, 3) := by decide +kernel
theorem d_K_startOf_45 : decode b_K_startOf 45 = .ok (.iload_n 2, 1) := by decide +kernel
theorem d_K_startOf_46 : decode b_K_startOf 46 = .ok (.invokevirtual 149, 3) := by decide +kernel
theorem d_K_startOf_49 : decode b_K_startOf 49 = .ok (.invokevirtual 69, 3) := by decide +kernel
theorem d_K_startOf_52 : decode b_K_startOf 52 = .ok (.ireturn, 1) := by decide +kernel
theorem d_K_startOf_53 : decode b_K_startOf 53 = .ok (.aload_n 0, 1) := by decide +kernel
theorem d_K_startOf_54 : decode b_K_startOf 54 = .ok (.getfield 19, 3) := by decide +kernel
theorem d_K_startOf_57 : decode b_K_startOf 57 = .ok (.iload_n 2, 1) := by decide +kernel
theorem d_K_startOf_58 : decode b_K_startOf 58 = .ok (.bipush 64, 2) := by decide +kernel
theorem d_K_startOf_60 : decode b_K_startOf 60 = .ok (.idiv, 1) := by decide +kernel
theorem d_K_startOf_61 : decode b_K_startOf 61 = .ok (.invokevirtual 69, 3) := by decide +kernel
theorem d_K_startOf_64 : decode b_K_startOf 64 = .ok (.ireturn, 1) := by decide +kernel
theorem d_K_startOf_65 : decode b_K_startOf 65 = .ok (.iconst 0, 1) := by decide +kernel
theorem d_K_startOf_66 : decode b_K_startOf 66 = .ok (.ireturn, 1) := by decide +kernel
theorem d_K_isAsTheRuleSays_0 : decode b_K_isAsTheRuleSays 0 = .ok (.aload_n 0, 1) := by decide +kernel
theorem d_K_isAsTheRuleSays_1 : decode b_K_isAsTheRuleSays 1 = .ok (.getstatic 107, 3) := by decide +kernel
theorem d_K_isAsTheRuleSays_4 : decode b_K_isAsTheRuleSays 4 = .ok (.iload_n 1, 1) := by decide +kernel
theorem d_K_isAsTheRuleSays_5 : decode b_K_isAsTheRuleSays 5 = .ok (.iaload, 1) := by decide +kernel
theorem d_K_isAsTheRuleSays_6 : decode b_K_isAsTheRuleSays 6 = .ok (.iload_n 2, 1) := by decide +kernel
theorem d_K_isAsTheRuleSays_7 : decode b_K_isAsTheRuleSays 7 = .ok (.invokevirtual 182, 3) := by decide +kernel
theorem d_K_isAsTheRuleSays_10 : decode b_K_isAsTheRuleSays 10 = .ok (.istore 4, 2) := by decide +kernel
theorem d_K_isAsTheRuleSays_12 : decode b_K_isAsTheRuleSays 12 = .ok (.aload_n 0, 1) := by decide +kernel
theorem d_K_isAsTheRuleSays_13 : decode b_K_isAsTheRuleSays 13 = .ok (.getstatic 114, 3) := by decide +kernel
theorem d_K_isAsTheRuleSays_16 : decode b_K_isAsTheRuleSays 16 = .ok (.iload_n 1, 1) := by decide +kernel
theorem d_K_isAsTheRuleSays_17 : decode b_K_isAsTheRuleSays 17 = .ok (.iaload, 1) := by decide +kernel
theorem d_K_isAsTheRuleSays_18 : decode b_K_isAsTheRuleSays 18 = .ok (.iload_n 3, 1) := by decide +kernel
theorem d_K_isAsTheRuleSays_19 : decode b_K_isAsTheRuleSays 19 = .ok (.invokevirtual 182, 3) := by decide +kernel
theorem d_K_isAsTheRuleSays_22 : decode b_K_isAsTheRuleSays 22 = .ok (.istore 5, 2) := by decide +kernel
theorem d_K_isAsTheRuleSays_24 : decode b_K_isAsTheRuleSays 24 = .ok (.iload_n 1, 1) := by decide +kernel
theorem d_K_isAsTheRuleSays_25 : decode b_K_isAsTheRuleSays 25 = .ok (.tableswitch 451 0 13 #[71, 71, 86, 101, 139, 147, 451, 184, 193, 249, 313, 340, 373, 411], 71) := by decide +kernel
theorem d_K_isAsTheRuleSays_96 : decode b_K_isAsTheRuleSays 96 = .ok (.aload_n 0, 1) := by decide +kernel
theorem d_K_isAsTheRuleSays_97 : decode b_K_isAsTheRuleSays 97 = .ok (.iload 4, 2) := by decide +kernel
theorem d_K_isAsTheRuleSays_99 : decode b_K_isAsTheRuleSays 99 = .ok (.invokevirtual 72, 3) := by decide +kernel
theorem d_K_isAsTheRuleSays_102 : decode b_K_isAsTheRuleSays 102 = .ok (.ifCond .ne 7, 3) := by decide +kernel
theorem d_K_isAsTheRuleSays_105 : decode b_K_isAsTheRuleSays 105 = .ok (.iconst 1, 1) := by decide +kernel
theorem d_K_isAsTheRuleSays_106 : decode b_K_isAsTheRuleSays 106 = .ok (.goto 4, 3) := by decide +kernel
theorem d_K_isAsTheRuleSays_109 : decode b_K_isAsTheRuleSays 109 = .ok (.iconst 0, 1) := by decide +kernel
theorem d_K_isAsTheRuleSays_110 : decode b_K_isAsTheRuleSays 110 = .ok (.ireturn, 1) := by decide +kernel
theorem d_K_isAsTheRuleSays_111 : decode b_K_isAsTheRuleSays 111 = .ok (.aload_n 0, 1) := by decide +kernel
theorem d_K_isAsTheRuleSays_112 : decode b_K_isAsTheRuleSays 112 = .ok (.iload 5, 2) := by decide +kernel
theorem d_K_isAsTheRuleSays_114 : decode b_K_isAsTheRuleSays 114 = .ok (.invokevirtual 72, 3) := by decide +kernel
theorem d_K_isAsTheRuleSays_117 : decode b_K_isAsTheRuleSays 117 = .ok (.ifCond .ne 7, 3) := by decide +kernel
theorem d_K_isAsTheRuleSays_120 : decode b_K_isAsTheRuleSays 120 = .ok (.iconst 1, 1) := by decide +kernel
theorem d_K_isAsTheRuleSays_121 : decode b_K_isAsTheRuleSays 121 = .ok (.goto 4, 3) := by decide +kernel
theorem d_K_isAsTheRuleSays_124 : decode b_K_isAsTheRuleSays 124 = .ok (.iconst 0, 1) := by decide +kernel
theorem d_K_isAsTheRuleSays_125 : decode b_K_isAsTheRuleSays 125 = .ok (.ireturn, 1) := by decide +kernel
theorem d_K_isAsTheRuleSays_126 : decode b_K_isAsTheRuleSays 126 = .ok (.aload_n 0, 1) := by decide +kernel
theorem d_K_isAsTheRuleSays_127 : decode b_K_isAsTheRuleSays 127 = .ok (.bipush 6, 2) := by decide +kernel
theorem d_K_isAsTheRuleSays_129 : decode b_K_isAsTheRuleSays 129 = .ok (.iload 4, 2) := by decide +kernel
theorem d_K_isAsTheRuleSays_131 : decode b_K_isAsTheRuleSays 131 = .ok (.invokevirtual 83, 3) := by decide +kernel
theorem d_K_isAsTheRuleSays_134 : decode b_K_isAsTheRuleSays 134 = .ok (.ifCond .eq 28, 3) := by decide +kernel
theorem d_K_isAsTheRuleSays_137 : decode b_K_isAsTheRuleSays 137 = .ok (.aload_n 0, 1) := by decide +kernel
theorem d_K_isAsTheRuleSays_138 : decode b_K_isAsTheRuleSays 138 = .ok (.getfield 19, 3) := by decide +kernel
theorem d_K_isAsTheRuleSays_141 : decode b_K_isAsTheRuleSays 141 = .ok (.aload_n 0, 1) := by decide +kernel
theorem d_K_isAsTheRuleSays_142 : decode b_K_isAsTheRuleSays 142 = .ok (.getfield 19, 3) := by decide +kernel
theorem d_K_isAsTheRuleSays_145 : decode b_K_isAsTheRuleSays 145 = .ok (.iload 4, 2) := by decide +kernel
theorem d_K_isAsTheRuleSays_147 : decode b_K_isAsTheRuleSays 147 = .ok (.invokevirtual 185, 3) := by decide +kernel
theorem d_K_isAsTheRuleSays_150 : decode b_K_isAsTheRuleSays 150 = .ok (.iload 5, 2) := by decide +kernel
theorem d_K_isAsTheRuleSays_152 : decode b_K_isAsTheRuleSays 152 = .ok (.invokevirtual 188, 3) := by decide +kernel
theorem d_K_isAsTheRuleSays_155 : decode b_K_isAsTheRuleSays 155 = .ok (.ifCond .eq 7, 3) := by decide +kernel
theorem d_K_isAsTheRuleSays_158 : decode b_K_isAsTheRuleSays 158 = .ok (.iconst 1, 1) := by decide +kernel
theorem d_K_isAsTheRuleSays_159 : decode b_K_isAsTheRuleSays 159 = .ok (.goto 4, 3) := by decide +kernel
theorem d_K_isAsTheRuleSays_162 : decode b_K_isAsTheRuleSays 162 = .ok (.iconst 0, 1) := by decide +kernel
theorem d_K_isAsTheRuleSays_163 : decode b_K_isAsTheRuleSays 163 = .ok (.ireturn, 1) := by decide +kernel
theorem d_K_isAsTheRuleSays_164 : decode b_K_isAsTheRuleSays 164 = .ok (.aload_n 0, 1) := by decide +kernel
theorem d_K_isAsTheRuleSays_165 : decode b_K_isAsTheRuleSays 165 = .ok (.iconst 0, 1) := by decide +kernel
theorem d_K_isAsTheRuleSays_166 : decode b_K_isAsTheRuleSays 166 = .ok (.iload 5, 2) := by decide +kernel
theorem d_K_isAsTheRuleSays_168 : decode b_K_isAsTheRuleSays 168 = .ok (.invokevirtual 83, 3) := by decide +kernel
theorem d_K_isAsTheRuleSays_171 : decode b_K_isAsTheRuleSays 171 = .ok (.ireturn, 1) := by decide +kernel
theorem d_K_isAsTheRuleSays_172 : decode b_K_isAsTheRuleSays 172 = .ok (.aload_n 0, 1) := by decide +kernel
theorem d_K_isAsTheRuleSays_173 : decode b_K_isAsTheRuleSays 173 = .ok (.iconst 4, 1) := by decide +kernel
theorem d_K_isAsTheRuleSays_174 : decode b_K_isAsTheRuleSays 174 = .ok (.iload 4, 2) := by decide +kernel
theorem d_K_isAsTheRuleSays_176 : decode b_K_isAsTheRuleSays 176 = .ok (.invokevirtual 83, 3) := by decide +kernel
theorem d_K_isAsTheRuleSays_179 : decode b_K_isAsTheRuleSays 179 = .ok (.ifCond .eq 28, 3) := by decide +kernel
theorem d_K_isAsTheRuleSays_182 : decode b_K_isAsTheRuleSays 182 = .ok (.aload_n 0, 1) := by decide +kernel
theorem d_K_isAsTheRuleSays_183 : decode b_K_isAsTheRuleSays 183 = .ok (.getfield 19, 3) := by decide +kernel
theorem d_K_isAsTheRuleSays_186 : decode b_K_isAsTheRuleSays 186 = .ok (.iload 4, 2) := by decide +kernel
theorem d_K_isAsTheRuleSays_188 : decode b_K_isAsTheRuleSays 188 = .ok (.invokevirtual 90, 3) := by decide +kernel
theorem d_K_isAsTheRuleSays_191 : decode b_K_isAsTheRuleSays 191 = .ok (.invokestatic 170, 3) := by decide +kernel
theorem d_K_isAsTheRuleSays_194 : decode b_K_isAsTheRuleSays 194 = .ok (.aload_n 0, 1) := by decide +kernel
theorem d_K_isAsTheRuleSays_195 : decode b_K_isAsTheRuleSays 195 = .ok (.iload 5, 2) := by decide +kernel
theorem d_K_isAsTheRuleSays_197 : decode b_K_isAsTheRuleSays 197 = .ok (.invokevirtual 72, 3) := by decide +kernel
theorem d_K_isAsTheRuleSays_200 : decode b_K_isAsTheRuleSays 200 = .ok (.if_icmp .ne 7, 3) := by decide +kernel
theorem d_K_isAsTheRuleSays_203 : decode b_K_isAsTheRuleSays 203 = .ok (.iconst 1, 1) := by decide +kernel
theorem d_K_isAsTheRuleSays_204 : decode b_K_isAsTheRuleSays 204 = .ok (.goto 4, 3) := by decide +kernel
theorem d_K_isAsTheRuleSays_207 : decode b_K_isAsTheRuleSays 207 = .ok (.iconst 0, 1) := by decide +kernel
theorem d_K_isAsTheRuleSays_208 : decode b_K_isAsTheRuleSays 208 = .ok (.ireturn, 1) := by decide +kernel
theorem d_K_isAsTheRuleSays_209 : decode b_K_isAsTheRuleSays 209 = .ok (.aload_n 0, 1) := by decide +kernel
theorem d_K_isAsTheRuleSays_210 : decode b_K_isAsTheRuleSays 210 = .ok (.bipush 7, 2) := by decide +kernel
theorem d_K_isAsTheRuleSays_212 : decode b_K_isAsTheRuleSays 212 = .ok (.iload 4, 2) := by decide +kernel
theorem d_K_isAsTheRuleSays_214 : decode b_K_isAsTheRuleSays 214 = .ok (.invokevirtual 83, 3) := by decide +kernel
theorem d_K_isAsTheRuleSays_217 : decode b_K_isAsTheRuleSays 217 = .ok (.ireturn, 1) := by decide +kernel
theorem d_K_isAsTheRuleSays_218 : decode b_K_isAsTheRuleSays 218 = .ok (.aload_n 0, 1) := by decide +kernel
theorem d_K_isAsTheRuleSays_219 : decode b_K_isAsTheRuleSays 219 = .ok (.bipush 7, 2) := by decide +kernel
theorem d_K_isAsTheRuleSays_221 : decode b_K_isAsTheRuleSays 221 = .ok (.iload 4, 2) := by decide +kernel
theorem d_K_isAsTheRuleSays_223 : decode b_K_isAsTheRuleSays 223 = .ok (.invokevirtual 83, 3) := by decide +kernel
theorem d_K_isAsTheRuleSays_226 : decode b_K_isAsTheRuleSays 226 = .ok (.ifCond .eq 46, 3) := by decide +kernel
theorem d_K_isAsTheRuleSays_229 : decode b_K_isAsTheRuleSays 229 = .ok (.aload_n 0, 1) := by decide +kernel
theorem d_K_isAsTheRuleSays_230 : decode b_K_isAsTheRuleSays 230 = .ok (.bipush 7, 2) := by decide +kernel
theorem d_K_isAsTheRuleSays_232 : decode b_K_isAsTheRuleSays 232 = .ok (.iload 5, 2) := by decide +kernel
theorem d_K_isAsTheRuleSays_234 : decode b_K_isAsTheRuleSays 234 = .ok (.invokevirtual 83, 3) := by decide +kernel
theorem d_K_isAsTheRuleSays_237 : decode b_K_isAsTheRuleSays 237 = .ok (.ifCond .eq 35, 3) := by decide +kernel
theorem d_K_isAsTheRuleSays_240 : decode b_K_isAsTheRuleSays 240 = .ok (.aload_n 0, 1) := by decide +kernel
theorem d_K_isAsTheRuleSays_241 : decode b_K_isAsTheRuleSays 241 = .ok (.getfield 19, 3) := by decide +kernel
theorem d_K_isAsTheRuleSays_244 : decode b_K_isAsTheRuleSays 244 = .ok (.aload_n 0, 1) := by decide +kernel
theorem d_K_isAsTheRuleSays_245 : decode b_K_isAsTheRuleSays 245 = .ok (.getfield 19, 3) := by decide +kernel
theorem d_K_isAsTheRuleSays_248 : decode b_K_isAsTheRuleSays 248 = .ok (.iload 4, 2) := by decide +kernel
theorem d_K_isAsTheRuleSays_250 : decode b_K_isAsTheRuleSays 250 = .ok (.invokevirtual 191, 3) := by decide +kernel
theorem d_K_isAsTheRuleSays_253 : decode b_K_isAsTheRuleSays 253 = .ok (.aload_n 0, 1) := by decide +kernel
theorem d_K_isAsTheRuleSays_254 : decode b_K_isAsTheRuleSays 254 = .ok (.getfield 19, 3) := by decide +kernel
theorem d_K_isAsTheRuleSays_257 : decode b_K_isAsTheRuleSays 257 = .ok (.iload 5, 2) := by decide +kernel
theorem d_K_isAsTheRuleSays_259 : decode b_K_isAsTheRuleSays 259 = .ok (.invokevirtual 185, 3) := by decide +kernel
theorem d_K_isAsTheRuleSays_262 : decode b_K_isAsTheRuleSays 262 = .ok (.invokevirtual 188, 3) := by decide +kernel
theorem d_K_isAsTheRuleSays_265 : decode b_K_isAsTheRuleSays 265 = .ok (.ifCond .eq 7, 3) := by decide +kernel
theorem d_K_isAsTheRuleSays_268 : decode b_K_isAsTheRuleSays 268 = .ok (.iconst 1, 1) := by decide +kernel
theorem d_K_isAsTheRuleSays_269 : decode b_K_isAsTheRuleSays 269 = .ok (.goto 4, 3) := by decide +kernel
theorem d_K_isAsTheRuleSays_272 : decode b_K_isAsTheRuleSays 272 = .ok (.iconst 0, 1) := by decide +kernel
theorem d_K_isAsTheRuleSays_273 : decode b_K_isAsTheRuleSays 273 = .ok (.ireturn, 1) := by decide +kernel
theorem d_K_isAsTheRuleSays_274 : decode b_K_isAsTheRuleSays 274 = .ok (.aload_n 0, 1) := by decide +kernel
theorem d_K_isAsTheRuleSays_275 : decode b_K_isAsTheRuleSays 275 = .ok (.bipush 7, 2) := by decide +kernel
theorem d_K_isAsTheRuleSays_277 : decode b_K_isAsTheRuleSays 277 = .ok (.iload 4, 2) := by decide +kernel
theorem d_K_isAsTheRuleSays_279 : decode b_K_isAsTheRuleSays 279 = .ok (.invokevirtual 83, 3) := by decide +kernel
theorem d_K_isAsTheRuleSays_282 : decode b_K_isAsTheRuleSays 282 = .ok (.ifCond .eq 54, 3) := by decide +kernel
theorem d_K_isAsTheRuleSays_285 : decode b_K_isAsTheRuleSays 285 = .ok (.aload_n 0, 1) := by decide +kernel
theorem d_K_isAsTheRuleSays_286 : decode b_K_isAsTheRuleSays 286 = .ok (.bipush 7, 2) := by decide +kernel
theorem d_K_isAsTheRuleSays_288 : decode b_K_isAsTheRuleSays 288 = .ok (.iload 5, 2) := by decide +kernel
theorem d_K_isAsTheRuleSays_290 : decode b_K_isAsTheRuleSays 290 = .ok (.invokevirtual 83, 3) := by decide +kernel
theorem d_K_isAsTheRuleSays_293 : decode b_K_isAsTheRuleSays 293 = .ok (.ifCond .eq 43, 3) := by decide +kernel
theorem d_K_isAsTheRuleSays_296 : decode b_K_isAsTheRuleSays 296 = .ok (.aload_n 0, 1) := by decide +kernel
theorem d_K_isAsTheRuleSays_297 : decode b_K_isAsTheRuleSays 297 = .ok (.getfield 10, 3) := by decide +kernel
theorem d_K_isAsTheRuleSays_300 : decode b_K_isAsTheRuleSays 300 = .ok (.aload_n 0, 1) := by decide +kernel
theorem d_K_isAsTheRuleSays_301 : decode b_K_isAsTheRuleSays 301 = .ok (.aload_n 0, 1) := by decide +kernel
theorem d_K_isAsTheRuleSays_302 : decode b_K_isAsTheRuleSays 302 = .ok (.getfield 19, 3) := by decide +kernel
theorem d_K_isAsTheRuleSays_305 : decode b_K_isAsTheRuleSays 305 = .ok (.iload 4, 2) := by decide +kernel
theorem d_K_isAsTheRuleSays_307 : decode b_K_isAsTheRuleSays 307 = .ok (.invokevirtual 185, 3) := by decide +kernel
theorem d_K_isAsTheRuleSays_310 : decode b_K_isAsTheRuleSays 310 = .ok (.invokevirtual 72, 3) := by decide +kernel
theorem d_K_isAsTheRuleSays_313 : decode b_K_isAsTheRuleSays 313 = .ok (.aload_n 0, 1) := by decide +kernel
theorem d_K_isAsTheRuleSays_314 : decode b_K_isAsTheRuleSays 314 = .ok (.aload_n 0, 1) := by decide +kernel
theorem d_K_isAsTheRuleSays_315 : decode b_K_isAsTheRuleSays 315 = .ok (.getfield 19, 3) := by decide +kernel
theorem d_K_isAsTheRuleSays_318 : decode b_K_isAsTheRuleSays 318 = .ok (.iload 5, 2) := by decide +kernel
theorem d_K_isAsTheRuleSays_320 : decode b_K_isAsTheRuleSays 320 = .ok (.invokevirtual 185, 3) := by decide +kernel
theorem d_K_isAsTheRuleSays_323 : decode b_K_isAsTheRuleSays 323 = .ok (.invokevirtual 72, 3) := by decide +kernel
theorem d_K_isAsTheRuleSays_326 : decode b_K_isAsTheRuleSays 326 = .ok (.invokevirtual 75, 3) := by decide +kernel
theorem d_K_isAsTheRuleSays_329 : decode b_K_isAsTheRuleSays 329 = .ok (.ifCond .eq 7, 3) := by decide +kernel
theorem d_K_isAsTheRuleSays_332 : decode b_K_isAsTheRuleSays 332 = .ok (.iconst 1, 1) := by decide +kernel
theorem d_K_isAsTheRuleSays_333 : decode b_K_isAsTheRuleSays 333 = .ok (.goto 4, 3) := by decide +kernel
theorem d_K_isAsTheRuleSays_336 : decode b_K_isAsTheRuleSays 336 = .ok (.iconst 0, 1) := by decide +kernel
theorem d_K_isAsTheRuleSays_337 : decode b_K_isAsTheRuleSays 337 = .ok (.ireturn, 1) := by decide +kernel
theorem d_K_isAsTheRuleSays_338 : decode b_K_isAsTheRuleSays 338 = .ok (.aload_n 0, 1) := by decide +kernel
theorem d_K_isAsTheRuleSays_339 : decode b_K_isAsTheRuleSays 339 = .ok (.bipush 7, 2) := by decide +kernel
theorem d_K_isAsTheRuleSays_341 : decode b_K_isAsTheRuleSays 341 = .ok (.iload 4, 2) := by decide +kernel
theorem d_K_isAsTheRuleSays_343 : decode b_K_isAsTheRuleSays 343 = .ok (.invokevirtual 83, 3) := by decide +kernel
theorem d_K_isAsTheRuleSays_346 : decode b_K_isAsTheRuleSays 346 = .ok (.ifCond .eq 17, 3) := by decide +kernel
theorem d_K_isAsTheRuleSays_349 : decode b_K_isAsTheRuleSays 349 = .ok (.aload_n 0, 1) := by decide +kernel
theorem d_K_isAsTheRuleSays_350 : decode b_K_isAsTheRuleSays 350 = .ok (.iconst 0, 1) := by decide +kernel
theorem d_K_isAsTheRuleSays_351 : decode b_K_isAsTheRuleSays 351 = .ok (.iload 5, 2) := by decide +kernel
theorem d_K_isAsTheRuleSays_353 : decode b_K_isAsTheRuleSays 353 = .ok (.invokevirtual 83, 3) := by decide +kernel
theorem d_K_isAsTheRuleSays_356 : decode b_K_isAsTheRuleSays 356 = .ok (.ifCond .eq 7, 3) := by decide +kernel
theorem d_K_isAsTheRuleSays_359 : decode b_K_isAsTheRuleSays 359 = .ok (.iconst 1, 1) := by decide +kernel
theorem d_K_isAsTheRuleSays_360 : decode b_K_isAsTheRuleSays 360 = .ok (.goto 4, 3) := by decide +kernel
theorem d_K_isAsTheRuleSays_363 : decode b_K_isAsTheRuleSays 363 = .ok (.iconst 0, 1) := by decide +kernel
theorem d_K_isAsTheRuleSays_364 : decode b_K_isAsTheRuleSays 364 = .ok (.ireturn, 1) := by decide +kernel
theorem d_K_isAsTheRuleSays_365 : decode b_K_isAsTheRuleSays 365 = .ok (.aload_n 0, 1) := by decide +kernel
theorem d_K_isAsTheRuleSays_366 : decode b_K_isAsTheRuleSays 366 = .ok (.iconst 5, 1) := by decide +kernel
theorem d_K_isAsTheRuleSays_367 : decode b_K_isAsTheRuleSays 367 = .ok (.iload 4, 2) := by decide +kernel
theorem d_K_isAsTheRuleSays_369 : decode b_K_isAsTheRuleSays 369 = .ok (.invokevirtual 83, 3) := by decide +kernel
theorem d_K_isAsTheRuleSays_372 : decode b_K_isAsTheRuleSays 372 = .ok (.ifCond .eq 24, 3) := by decide +kernel
theorem d_K_isAsTheRuleSays_375 : decode b_K_isAsTheRuleSays 375 = .ok (.aload_n 0, 1) := by decide +kernel
theorem d_K_isAsTheRuleSays_376 : decode b_K_isAsTheRuleSays 376 = .ok (.iconst 3, 1) := by decide +kernel
theorem d_K_isAsTheRuleSays_377 : decode b_K_isAsTheRuleSays 377 = .ok (.aload_n 0, 1) := by decide +kernel
theorem d_K_isAsTheRuleSays_378 : decode b_K_isAsTheRuleSays 378 = .ok (.getfield 19, 3) := by decide +kernel
theorem d_K_isAsTheRuleSays_381 : decode b_K_isAsTheRuleSays 381 = .ok (.iload 4, 2) := by decide +kernel
theorem d_K_isAsTheRuleSays_383 : decode b_K_isAsTheRuleSays 383 = .ok (.invokevirtual 185, 3) := by decide +kernel
theorem d_K_isAsTheRuleSays_386 : decode b_K_isAsTheRuleSays 386 = .ok (.invokevirtual 83, 3) := by decide +kernel
theorem d_K_isAsTheRuleSays_389 : decode b_K_isAsTheRuleSays 389 = .ok (.ifCond .eq 7, 3) := by decide +kernel
theorem d_K_isAsTheRuleSays_392 : decode b_K_isAsTheRuleSays 392 = .ok (.iconst 1, 1) := by decide +kernel
theorem d_K_isAsTheRuleSays_393 : decode b_K_isAsTheRuleSays 393 = .ok (.goto 4, 3) := by decide +kernel
theorem d_K_isAsTheRuleSays_396 : decode b_K_isAsTheRuleSays 396 = .ok (.iconst 0, 1) := by decide +kernel
theorem d_K_isAsTheRuleSays_397 : decode b_K_isAsTheRuleSays 397 = .ok (.ireturn, 1) := by decide +kernel
theorem d_K_isAsTheRuleSays_398 : decode b_K_isAsTheRuleSays 398 = .ok (.aload_n 0, 1) := by decide +kernel
theorem d_K_isAsTheRuleSays_399 : decode b_K_isAsTheRuleSays 399 = .ok (.bipush 7, 2) := by decide +kernel
theorem d_K_isAsTheRuleSays_401 : decode b_K_isAsTheRuleSays 401 = .ok (.iload 4, 2) := by decide +kernel
theorem d_K_isAsTheRuleSays_403 : decode b_K_isAsTheRuleSays 403 = .ok (.invokevirtual 83, 3) := by decide +kernel
theorem d_K_isAsTheRuleSays_406 : decode b_K_isAsTheRuleSays 406 = .ok (.ifCond .eq 28, 3) := by decide +kernel
theorem d_K_isAsTheRuleSays_409 : decode b_K_isAsTheRuleSays 409 = .ok (.aload_n 0, 1) := by decide +kernel
theorem d_K_isAsTheRuleSays_410 : decode b_K_isAsTheRuleSays 410 = .ok (.getfield 19, 3) := by decide +kernel
theorem d_K_isAsTheRuleSays_413 : decode b_K_isAsTheRuleSays 413 = .ok (.aload_n 0, 1) := by decide +kernel
theorem d_K_isAsTheRuleSays_414 : decode b_K_isAsTheRuleSays 414 = .ok (.getfield 19, 3) := by decide +kernel
theorem d_K_isAsTheRuleSays_417 : decode b_K_isAsTheRuleSays 417 = .ok (.iload 4, 2) := by decide +kernel
theorem d_K_isAsTheRuleSays_419 : decode b_K_isAsTheRuleSays 419 = .ok (.invokevirtual 185, 3) := by decide +kernel
theorem d_K_isAsTheRuleSays_422 : decode b_K_isAsTheRuleSays 422 = .ok (.iload 5, 2) := by decide +kernel
theorem d_K_isAsTheRuleSays_424 : decode b_K_isAsTheRuleSays 424 = .ok (.invokevirtual 188, 3) := by decide +kernel
theorem d_K_isAsTheRuleSays_427 : decode b_K_isAsTheRuleSays 427 = .ok (.ifCond .eq 7, 3) := by decide +kernel
theorem d_K_isAsTheRuleSays_430 : decode b_K_isAsTheRuleSays 430 = .ok (.iconst 1, 1) := by decide +kernel
theorem d_K_isAsTheRuleSays_431 : decode b_K_isAsTheRuleSays 431 = .ok (.goto 4, 3) := by decide +kernel
theorem d_K_isAsTheRuleSays_434 : decode b_K_isAsTheRuleSays 434 = .ok (.iconst 0, 1) := by decide +kernel
theorem d_K_isAsTheRuleSays_435 : decode b_K_isAsTheRuleSays 435 = .ok (.ireturn, 1) := by decide +kernel
theorem d_K_isAsTheRuleSays_436 : decode b_K_isAsTheRuleSays 436 = .ok (.aload_n 0, 1) := by decide +kernel
theorem d_K_isAsTheRuleSays_437 : decode b_K_isAsTheRuleSays 437 = .ok (.iconst 0, 1) := by decide +kernel
theorem d_K_isAsTheRuleSays_438 : decode b_K_isAsTheRuleSays 438 = .ok (.iload 5, 2) := by decide +kernel
theorem d_K_isAsTheRuleSays_440 : decode b_K_isAsTheRuleSays 440 = .ok (.invokevirtual 83, 3) := by decide +kernel
theorem d_K_isAsTheRuleSays_443 : decode b_K_isAsTheRuleSays 443 = .ok (.ifCond .eq 31, 3) := by decide +kernel
theorem d_K_isAsTheRuleSays_446 : decode b_K_isAsTheRuleSays 446 = .ok (.aload_n 0, 1) := by decide +kernel
theorem d_K_isAsTheRuleSays_447 : decode b_K_isAsTheRuleSays 447 = .ok (.iload 5, 2) := by decide +kernel
theorem d_K_isAsTheRuleSays_449 : decode b_K_isAsTheRuleSays 449 = .ok (.invokevirtual 72, 3) := by decide +kernel
theorem d_K_isAsTheRuleSays_452 : decode b_K_isAsTheRuleSays 452 = .ok (.aload_n 0, 1) := by decide +kernel
theorem d_K_isAsTheRuleSays_453 : decode b_K_isAsTheRuleSays 453 = .ok (.aload_n 0, 1) := by decide +kernel
theorem d_K_isAsTheRuleSays_454 : decode b_K_isAsTheRuleSays 454 = .ok (.getfield 19, 3) := by decide +kernel
theorem d_K_isAsTheRuleSays_457 : decode b_K_isAsTheRuleSays 457 = .ok (.iload_n 3, 1) := by decide +kernel
theorem d_K_isAsTheRuleSays_458 : decode b_K_isAsTheRuleSays 458 = .ok (.bipush 64, 2) := by decide +kernel
theorem d_K_isAsTheRuleSays_460 : decode b_K_isAsTheRuleSays 460 = .ok (.irem, 1) := by decide +kernel
theorem d_K_isAsTheRuleSays_461 : decode b_K_isAsTheRuleSays 461 = .ok (.invokevirtual 69, 3) := by decide +kernel
theorem d_K_isAsTheRuleSays_464 : decode b_K_isAsTheRuleSays 464 = .ok (.invokevirtual 72, 3) := by decide +kernel
theorem d_K_isAsTheRuleSays_467 : decode b_K_isAsTheRuleSays 467 = .ok (.if_icmp .ne 7, 3) := by decide +kernel
theorem d_K_isAsTheRuleSays_470 : decode b_K_isAsTheRuleSays 470 = .ok (.iconst 1, 1) := by decide +kernel
theorem d_K_isAsTheRuleSays_471 : decode b_K_isAsTheRuleSays 471 = .ok (.goto 4, 3) := by decide +kernel
theorem d_K_isAsTheRuleSays_474 : decode b_K_isAsTheRuleSays 474 = .ok (.iconst 0, 1) := by decide +kernel
theorem d_K_isAsTheRuleSays_475 : decode b_K_isAsTheRuleSays 475 = .ok (.ireturn, 1) := by decide +kernel
theorem d_K_isAsTheRuleSays_476 : decode b_K_isAsTheRuleSays 476 = .ok (.iconst 1, 1) := by decide +kernel
theorem d_K_isAsTheRuleSays_477 : decode b_K_isAsTheRuleSays 477 = .ok (.ireturn, 1) := by decide +kernel
theorem d_K_bindsWhatIsAssumed_0 : decode b_K_bindsWhatIsAssumed 0 = .ok (.iload_n 1, 1) := by decide +kernel
theorem d_K_bindsWhatIsAssumed_1 : decode b_K_bindsWhatIsAssumed 1 = .ok (.iconst 4, 1) := by decide +kernel
theorem d_K_bindsWhatIsAssumed_2 : decode b_K_bindsWhatIsAssumed 2 = .ok (.if_icmp .eq 11, 3) := by decide +kernel
theorem d_K_bindsWhatIsAssumed_5 : decode b_K_bindsWhatIsAssumed 5 = .ok (.iload_n 1, 1) := by decide +kernel
theorem d_K_bindsWhatIsAssumed_6 : decode b_K_bindsWhatIsAssumed 6 = .ok (.bipush 10, 2) := by decide +kernel
theorem d_K_bindsWhatIsAssumed_8 : decode b_K_bindsWhatIsAssumed 8 = .ok (.if_icmp .eq 5, 3) := by decide +kernel
theorem d_K_bindsWhatIsAssumed_11 : decode b_K_bindsWhatIsAssumed 11 = .ok (.iconst 0, 1) := by decide +kernel
theorem d_K_bindsWhatIsAssumed_12 : decode b_K_bindsWhatIsAssumed 12 = .ok (.ireturn, 1) := by decide +kernel
theorem d_K_bindsWhatIsAssumed_13 : decode b_K_bindsWhatIsAssumed 13 = .ok (.aload_n 0, 1) := by decide +kernel
theorem d_K_bindsWhatIsAssumed_14 : decode b_K_bindsWhatIsAssumed 14 = .ok (.getfield 19, 3) := by decide +kernel
theorem d_K_bindsWhatIsAssumed_17 : decode b_K_bindsWhatIsAssumed 17 = .ok (.aload_n 0, 1) := by decide +kernel
theorem d_K_bindsWhatIsAssumed_18 : decode b_K_bindsWhatIsAssumed 18 = .ok (.getfield 19, 3) := by decide +kernel
theorem d_K_bindsWhatIsAssumed_21 : decode b_K_bindsWhatIsAssumed 21 = .ok (.iload_n 3, 1) := by decide +kernel
theorem d_K_bindsWhatIsAssumed_22 : decode b_K_bindsWhatIsAssumed 22 = .ok (.invokevirtual 69, 3) := by decide +kernel
theorem d_K_bindsWhatIsAssumed_25 : decode b_K_bindsWhatIsAssumed 25 = .ok (.invokevirtual 90, 3) := by decide +kernel
theorem d_K_bindsWhatIsAssumed_28 : decode b_K_bindsWhatIsAssumed 28 = .ok (.istore 4, 2) := by decide +kernel
theorem d_K_bindsWhatIsAssumed_30 : decode b_K_bindsWhatIsAssumed 30 = .ok (.iconst 0, 1) := by decide +kernel
theorem d_K_bindsWhatIsAssumed_31 : decode b_K_bindsWhatIsAssumed 31 = .ok (.istore 5, 2) := by decide +kernel
theorem d_K_bindsWhatIsAssumed_33 : decode b_K_bindsWhatIsAssumed 33 = .ok (.iload 5, 2) := by decide +kernel
theorem d_K_bindsWhatIsAssumed_35 : decode b_K_bindsWhatIsAssumed 35 = .ok (.aload_n 0, 1) := by decide +kernel
theorem d_K_bindsWhatIsAssumed_36 : decode b_K_bindsWhatIsAssumed 36 = .ok (.getfield 19, 3) := by decide +kernel
theorem d_K_bindsWhatIsAssumed_39 : decode b_K_bindsWhatIsAssumed 39 = .ok (.invokevirtual 131, 3) := by decide +kernel
theorem d_K_bindsWhatIsAssumed_42 : decode b_K_bindsWhatIsAssumed 42 = .ok (.if_icmp .ge 41, 3) := by decide +kernel
theorem d_K_bindsWhatIsAssumed_45 : decode b_K_bindsWhatIsAssumed 45 = .ok (.aload_n 0, 1) := by decide +kernel
theorem d_K_bindsWhatIsAssumed_46 : decode b_K_bindsWhatIsAssumed 46 = .ok (.getfield 35, 3) := by decide +kernel
theorem d_K_bindsWhatIsAssumed_49 : decode b_K_bindsWhatIsAssumed 49 = .ok (.iload_n 2, 1) := by decide +kernel
theorem d_K_bindsWhatIsAssumed_50 : decode b_K_bindsWhatIsAssumed 50 = .ok (.invokevirtual 152, 3) := by decide +kernel
theorem d_K_bindsWhatIsAssumed_53 : decode b_K_bindsWhatIsAssumed 53 = .ok (.iload 5, 2) := by decide +kernel
theorem d_K_bindsWhatIsAssumed_55 : decode b_K_bindsWhatIsAssumed 55 = .ok (.invokestatic 194, 3) := by decide +kernel
theorem d_K_bindsWhatIsAssumed_58 : decode b_K_bindsWhatIsAssumed 58 = .ok (.ifCond .eq 19, 3) := by decide +kernel
theorem d_K_bindsWhatIsAssumed_61 : decode b_K_bindsWhatIsAssumed 61 = .ok (.aload_n 0, 1) := by decide +kernel
theorem d_K_bindsWhatIsAssumed_62 : decode b_K_bindsWhatIsAssumed 62 = .ok (.getfield 19, 3) := by decide +kernel
theorem d_K_bindsWhatIsAssumed_65 : decode b_K_bindsWhatIsAssumed 65 = .ok (.iload 5, 2) := by decide +kernel
theorem d_K_bindsWhatIsAssumed_67 : decode b_K_bindsWhatIsAssumed 67 = .ok (.iload 4, 2) := by decide +kernel
theorem d_K_bindsWhatIsAssumed_69 : decode b_K_bindsWhatIsAssumed 69 = .ok (.invokevirtual 136, 3) := by decide +kernel
theorem d_K_bindsWhatIsAssumed_72 : decode b_K_bindsWhatIsAssumed 72 = .ok (.ifCond .eq 5, 3) := by decide +kernel
theorem d_K_bindsWhatIsAssumed_75 : decode b_K_bindsWhatIsAssumed 75 = .ok (.iconst 1, 1) := by decide +kernel
theorem d_K_bindsWhatIsAssumed_76 : decode b_K_bindsWhatIsAssumed 76 = .ok (.ireturn, 1) := by decide +kernel
theorem d_K_bindsWhatIsAssumed_77 : decode b_K_bindsWhatIsAssumed 77 = .ok (.iinc 5 1, 3) := by decide +kernel
theorem d_K_bindsWhatIsAssumed_80 : decode b_K_bindsWhatIsAssumed 80 = .ok (.goto (-47), 3) := by decide +kernel
theorem d_K_bindsWhatIsAssumed_83 : decode b_K_bindsWhatIsAssumed 83 = .ok (.iconst 0, 1) := by decide +kernel
theorem d_K_bindsWhatIsAssumed_84 : decode b_K_bindsWhatIsAssumed 84 = .ok (.ireturn, 1) := by decide +kernel
theorem d_K_derive_0 : decode b_K_derive 0 = .ok (.aload_n 0, 1) := by decide +kernel
theorem d_K_derive_1 : decode b_K_derive 1 = .ok (.getfield 19, 3) := by decide +kernel
theorem d_K_derive_4 : decode b_K_derive 4 = .ok (.invokevirtual 131, 3) := by decide +kernel
theorem d_K_derive_7 : decode b_K_derive 7 = .ok (.istore 4, 2) := by decide +kernel
theorem d_K_derive_9 : decode b_K_derive 9 = .ok (.aload_n 0, 1) := by decide +kernel
theorem d_K_derive_10 : decode b_K_derive 10 = .ok (.getfield 10, 3) := by decide +kernel
theorem d_K_derive_13 : decode b_K_derive 13 = .ok (.invokevirtual 86, 3) := by decide +kernel
theorem d_K_derive_16 : decode b_K_derive 16 = .ok (.istore 5, 2) := by decide +kernel
theorem d_K_derive_18 : decode b_K_derive 18 = .ok (.iload_n 1, 1) := by decide +kernel
theorem d_K_derive_19 : decode b_K_derive 19 = .ok (.bipush 13, 2) := by decide +kernel
theorem d_K_derive_21 : decode b_K_derive 21 = .ok (.if_icmp .ne 12, 3) := by decide +kernel
theorem d_K_derive_24 : decode b_K_derive 24 = .ok (.aload_n 0, 1) := by decide +kernel
theorem d_K_derive_25 : decode b_K_derive 25 = .ok (.iload_n 2, 1) := by decide +kernel
theorem d_K_derive_26 : decode b_K_derive 26 = .ok (.iload_n 3, 1) := by decide +kernel
theorem d_K_derive_27 : decode b_K_derive 27 = .ok (.invokevirtual 198, 3) := by decide +kernel
theorem d_K_derive_30 : decode b_K_derive 30 = .ok (.goto 10, 3) := by decide +kernel
theorem d_K_derive_33 : decode b_K_derive 33 = .ok (.aload_n 0, 1) := by decide +kernel
theorem d_K_derive_34 : decode b_K_derive 34 = .ok (.iload_n 1, 1) := by decide +kernel
theorem d_K_derive_35 : decode b_K_derive 35 = .ok (.iload_n 2, 1) := by decide +kernel
theorem d_K_derive_36 : decode b_K_derive 36 = .ok (.iload_n 3, 1) := by decide +kernel
theorem d_K_derive_37 : decode b_K_derive 37 = .ok (.invokevirtual 202, 3) := by decide +kernel
theorem d_K_derive_40 : decode b_K_derive 40 = .ok (.lstore 6, 2) := by decide +kernel
theorem d_K_derive_42 : decode b_K_derive 42 = .ok (.bipush (-4), 2) := by decide +kernel
theorem d_K_derive_44 : decode b_K_derive 44 = .ok (.istore 8, 2) := by decide +kernel
theorem d_K_derive_46 : decode b_K_derive 46 = .ok (.lload 6, 2) := by decide +kernel
theorem d_K_derive_48 : decode b_K_derive 48 = .ok (.ldc2_w 206, 3) := by decide +kernel
theorem d_K_derive_51 : decode b_K_derive 51 = .ok (.lcmp, 1) := by decide +kernel
theorem d_K_derive_52 : decode b_K_derive 52 = .ok (.ifCond .eq 30, 3) := by decide +kernel
theorem d_K_derive_55 : decode b_K_derive 55 = .ok (.aload_n 0, 1) := by decide +kernel
theorem d_K_derive_56 : decode b_K_derive 56 = .ok (.getfield 28, 3) := by decide +kernel
theorem d_K_derive_59 : decode b_K_derive 59 = .ok (.invokevirtual 47, 3) := by decide +kernel
theorem d_K_derive_62 : decode b_K_derive 62 = .ok (.aload_n 0, 1) := by decide +kernel
theorem d_K_derive_63 : decode b_K_derive 63 = .ok (.iload_n 1, 1) := by decide +kernel
theorem d_K_derive_64 : decode b_K_derive 64 = .ok (.iload_n 2, 1) := by decide +kernel
theorem d_K_derive_65 : decode b_K_derive 65 = .ok (.iload_n 3, 1) := by decide +kernel
theorem d_K_derive_66 : decode b_K_derive 66 = .ok (.invokevirtual 208, 3) := by decide +kernel
theorem d_K_derive_69 : decode b_K_derive 69 = .ok (.aload_n 0, 1) := by decide +kernel
theorem d_K_derive_70 : decode b_K_derive 70 = .ok (.getfield 19, 3) := by decide +kernel
theorem d_K_derive_73 : decode b_K_derive 73 = .ok (.aload_n 0, 1) := by decide +kernel
theorem d_K_derive_74 : decode b_K_derive 74 = .ok (.getfield 28, 3) := by decide +kernel
theorem d_K_derive_77 : decode b_K_derive 77 = .ok (.invokevirtual 60, 3) := by decide +kernel
theorem d_K_derive_80 : decode b_K_derive 80 = .ok (.istore 8, 2) := by decide +kernel
theorem d_K_derive_82 : decode b_K_derive 82 = .ok (.iload 8, 2) := by decide +kernel
theorem d_K_derive_84 : decode b_K_derive 84 = .ok (.bipush (-4), 2) := by decide +kernel
theorem d_K_derive_86 : decode b_K_derive 86 = .ok (.if_icmp .ne 24, 3) := by decide +kernel
theorem d_K_derive_89 : decode b_K_derive 89 = .ok (.aload_n 0, 1) := by decide +kernel
theorem d_K_derive_90 : decode b_K_derive 90 = .ok (.getfield 19, 3) := by decide +kernel
theorem d_K_derive_93 : decode b_K_derive 93 = .ok (.iload 4, 2) := by decide +kernel
theorem d_K_derive_95 : decode b_K_derive 95 = .ok (.invokevirtual 211, 3) := by decide +kernel
theorem d_K_derive_98 : decode b_K_derive 98 = .ok (.aload_n 0, 1) := by decide +kernel
theorem d_K_derive_99 : decode b_K_derive 99 = .ok (.getfield 10, 3) := by decide +kernel
theorem d_K_derive_102 : decode b_K_derive 102 = .ok (.iload 5, 2) := by decide +kernel
theorem d_K_derive_104 : decode b_K_derive 104 = .ok (.invokevirtual 100, 3) := by decide +kernel
theorem d_K_derive_107 : decode b_K_derive 107 = .ok (.bipush (-4), 2) := by decide +kernel
theorem d_K_derive_109 : decode b_K_derive 109 = .ok (.ireturn, 1) := by decide +kernel
theorem d_K_derive_110 : decode b_K_derive 110 = .ok (.aload_n 0, 1) := by decide +kernel
theorem d_K_derive_111 : decode b_K_derive 111 = .ok (.getfield 35, 3) := by decide +kernel
theorem d_K_derive_114 : decode b_K_derive 114 = .ok (.iload_n 1, 1) := by decide +kernel
theorem d_K_derive_115 : decode b_K_derive 115 = .ok (.iload_n 2, 1) := by decide +kernel
theorem d_K_derive_116 : decode b_K_derive 116 = .ok (.iload_n 3, 1) := by decide +kernel
theorem d_K_derive_117 : decode b_K_derive 117 = .ok (.lload 6, 2) := by decide +kernel
theorem d_K_derive_119 : decode b_K_derive 119 = .ok (.iload 8, 2) := by decide +kernel
theorem d_K_derive_121 : decode b_K_derive 121 = .ok (.invokevirtual 212, 3) := by decide +kernel
theorem d_K_derive_124 : decode b_K_derive 124 = .ok (.ireturn, 1) := by decide +kernel
theorem d_K_joinedHypotheses_0 : decode b_K_joinedHypotheses 0 = .ok (.lconst 0, 1) := by decide +kernel
theorem d_K_joinedHypotheses_1 : decode b_K_joinedHypotheses 1 = .ok (.lstore 4, 2) := by decide +kernel
theorem d_K_joinedHypotheses_3 : decode b_K_joinedHypotheses 3 = .ok (.getstatic 107, 3) := by decide +kernel
theorem d_K_joinedHypotheses_6 : decode b_K_joinedHypotheses 6 = .ok (.iload_n 1, 1) := by decide +kernel
theorem d_K_joinedHypotheses_7 : decode b_K_joinedHypotheses 7 = .ok (.iaload, 1) := by decide +kernel
theorem d_K_joinedHypotheses_8 : decode b_K_joinedHypotheses 8 = .ok (.iconst 2, 1) := by decide +kernel
theorem d_K_joinedHypotheses_9 : decode b_K_joinedHypotheses 9 = .ok (.if_icmp .ne 16, 3) := by decide +kernel
theorem d_K_joinedHypotheses_12 : decode b_K_joinedHypotheses 12 = .ok (.lload 4, 2) := by decide +kernel
theorem d_K_joinedHypotheses_14 : decode b_K_joinedHypotheses 14 = .ok (.aload_n 0, 1) := by decide +kernel
theorem d_K_joinedHypotheses_15 : decode b_K_joinedHypotheses 15 = .ok (.getfield 35, 3) := by decide +kernel
theorem d_K_joinedHypotheses_18 : decode b_K_joinedHypotheses 18 = .ok (.iload_n 2, 1) := by decide +kernel
theorem d_K_joinedHypotheses_19 : decode b_K_joinedHypotheses 19 = .ok (.invokevirtual 152, 3) := by decide +kernel
theorem d_K_joinedHypotheses_22 : decode b_K_joinedHypotheses 22 = .ok (.lor, 1) := by decide +kernel
theorem d_K_joinedHypotheses_23 : decode b_K_joinedHypotheses 23 = .ok (.lstore 4, 2) := by decide +kernel
theorem d_K_joinedHypotheses_25 : decode b_K_joinedHypotheses 25 = .ok (.getstatic 114, 3) := by decide +kernel
theorem d_K_joinedHypotheses_28 : decode b_K_joinedHypotheses 28 = .ok (.iload_n 1, 1) := by decide +kernel
theorem d_K_joinedHypotheses_29 : decode b_K_joinedHypotheses 29 = .ok (.iaload, 1) := by decide +kernel
theorem d_K_joinedHypotheses_30 : decode b_K_joinedHypotheses 30 = .ok (.iconst 2, 1) := by decide +kernel
theorem d_K_joinedHypotheses_31 : decode b_K_joinedHypotheses 31 = .ok (.if_icmp .ne 16, 3) := by decide +kernel
theorem d_K_joinedHypotheses_34 : decode b_K_joinedHypotheses 34 = .ok (.lload 4, 2) := by decide +kernel
theorem d_K_joinedHypotheses_36 : decode b_K_joinedHypotheses 36 = .ok (.aload_n 0, 1) := by decide +kernel
theorem d_K_joinedHypotheses_37 : decode b_K_joinedHypotheses 37 = .ok (.getfield 35, 3) := by decide +kernel
theorem d_K_joinedHypotheses_40 : decode b_K_joinedHypotheses 40 = .ok (.iload_n 3, 1) := by decide +kernel
theorem d_K_joinedHypotheses_41 : decode b_K_joinedHypotheses 41 = .ok (.invokevirtual 152, 3) := by decide +kernel
theorem d_K_joinedHypotheses_44 : decode b_K_joinedHypotheses 44 = .ok (.lor, 1) := by decide +kernel
theorem d_K_joinedHypotheses_45 : decode b_K_joinedHypotheses 45 = .ok (.lstore 4, 2) := by decide +kernel
theorem d_K_joinedHypotheses_47 : decode b_K_joinedHypotheses 47 = .ok (.iload_n 1, 1) := by decide +kernel
theorem d_K_joinedHypotheses_48 : decode b_K_joinedHypotheses 48 = .ok (.iconst 1, 1) := by decide +kernel
theorem d_K_joinedHypotheses_49 : decode b_K_joinedHypotheses 49 = .ok (.if_icmp .ne 11, 3) := by decide +kernel
theorem d_K_joinedHypotheses_52 : decode b_K_joinedHypotheses 52 = .ok (.lload 4, 2) := by decide +kernel
theorem d_K_joinedHypotheses_54 : decode b_K_joinedHypotheses 54 = .ok (.lconst 1, 1) := by decide +kernel
theorem d_K_joinedHypotheses_55 : decode b_K_joinedHypotheses 55 = .ok (.iload_n 2, 1) := by decide +kernel
theorem d_K_joinedHypotheses_56 : decode b_K_joinedHypotheses 56 = .ok (.lshl, 1) := by decide +kernel
theorem d_K_joinedHypotheses_57 : decode b_K_joinedHypotheses 57 = .ok (.lor, 1) := by decide +kernel
theorem d_K_joinedHypotheses_58 : decode b_K_joinedHypotheses 58 = .ok (.lstore 4, 2) := by decide +kernel
theorem d_K_joinedHypotheses_60 : decode b_K_joinedHypotheses 60 = .ok (.iload_n 1, 1) := by decide +kernel
theorem d_K_joinedHypotheses_61 : decode b_K_joinedHypotheses 61 = .ok (.iconst 2, 1) := by decide +kernel
theorem d_K_joinedHypotheses_62 : decode b_K_joinedHypotheses 62 = .ok (.if_icmp .ne 15, 3) := by decide +kernel
theorem d_K_joinedHypotheses_65 : decode b_K_joinedHypotheses 65 = .ok (.lload 4, 2) := by decide +kernel
theorem d_K_joinedHypotheses_67 : decode b_K_joinedHypotheses 67 = .ok (.lconst 1, 1) := by decide +kernel
theorem d_K_joinedHypotheses_68 : decode b_K_joinedHypotheses 68 = .ok (.iload_n 3, 1) := by decide +kernel
theorem d_K_joinedHypotheses_69 : decode b_K_joinedHypotheses 69 = .ok (.lshl, 1) := by decide +kernel
theorem d_K_joinedHypotheses_70 : decode b_K_joinedHypotheses 70 = .ok (.ldc2_w 156, 3) := by decide +kernel
theorem d_K_joinedHypotheses_73 : decode b_K_joinedHypotheses 73 = .ok (.lxor, 1) := by decide +kernel
theorem d_K_joinedHypotheses_74 : decode b_K_joinedHypotheses 74 = .ok (.land, 1) := by decide +kernel
theorem d_K_joinedHypotheses_75 : decode b_K_joinedHypotheses 75 = .ok (.lstore 4, 2) := by decide +kernel
theorem d_K_joinedHypotheses_77 : decode b_K_joinedHypotheses 77 = .ok (.lload 4, 2) := by decide +kernel
theorem d_K_joinedHypotheses_79 : decode b_K_joinedHypotheses 79 = .ok (.lreturn, 1) := by decide +kernel
theorem d_K_substitutedHypotheses_0 : decode b_K_substitutedHypotheses 0 = .ok (.aload_n 0, 1) := by decide +kernel
theorem d_K_substitutedHypotheses_1 : decode b_K_substitutedHypotheses 1 = .ok (.getfield 35, 3) := by decide +kernel
theorem d_K_substitutedHypotheses_4 : decode b_K_substitutedHypotheses 4 = .ok (.iload_n 1, 1) := by decide +kernel
theorem d_K_substitutedHypotheses_5 : decode b_K_substitutedHypotheses 5 = .ok (.invokevirtual 152, 3) := by decide +kernel
theorem d_K_substitutedHypotheses_8 : decode b_K_substitutedHypotheses 8 = .ok (.lstore_n 3, 1) := by decide +kernel
theorem d_K_substitutedHypotheses_9 : decode b_K_substitutedHypotheses 9 = .ok (.lconst 0, 1) := by decide +kernel
theorem d_K_substitutedHypotheses_10 : decode b_K_substitutedHypotheses 10 = .ok (.lstore 5, 2) := by decide +kernel
theorem d_K_substitutedHypotheses_12 : decode b_K_substitutedHypotheses 12 = .ok (.iconst 0, 1) := by decide +kernel
theorem d_K_substitutedHypotheses_13 : decode b_K_substitutedHypotheses 13 = .ok (.istore 7, 2) := by decide +kernel
theorem d_K_substitutedHypotheses_15 : decode b_K_substitutedHypotheses 15 = .ok (.iload 7, 2) := by decide +kernel
theorem d_K_substitutedHypotheses_17 : decode b_K_substitutedHypotheses 17 = .ok (.bipush 60, 2) := by decide +kernel
theorem d_K_substitutedHypotheses_19 : decode b_K_substitutedHypotheses 19 = .ok (.if_icmp .ge 72, 3) := by decide +kernel
theorem d_K_substitutedHypotheses_22 : decode b_K_substitutedHypotheses 22 = .ok (.lload_n 3, 1) := by decide +kernel
theorem d_K_substitutedHypotheses_23 : decode b_K_substitutedHypotheses 23 = .ok (.iload 7, 2) := by decide +kernel
theorem d_K_substitutedHypotheses_25 : decode b_K_substitutedHypotheses 25 = .ok (.invokestatic 194, 3) := by decide +kernel
theorem d_K_substitutedHypotheses_28 : decode b_K_substitutedHypotheses 28 = .ok (.ifCond .eq 57, 3) := by decide +kernel
theorem d_K_substitutedHypotheses_31 : decode b_K_substitutedHypotheses 31 = .ok (.aload_n 0, 1) := by decide +kernel
theorem d_K_substitutedHypotheses_32 : decode b_K_substitutedHypotheses 32 = .ok (.getfield 28, 3) := by decide +kernel
theorem d_K_substitutedHypotheses_35 : decode b_K_substitutedHypotheses 35 = .ok (.invokevirtual 47, 3) := by decide +kernel
theorem d_K_substitutedHypotheses_38 : decode b_K_substitutedHypotheses 38 = .ok (.aload_n 0, 1) := by decide +kernel
theorem d_K_substitutedHypotheses_39 : decode b_K_substitutedHypotheses 39 = .ok (.aload_n 0, 1) := by decide +kernel
theorem d_K_substitutedHypotheses_40 : decode b_K_substitutedHypotheses 40 = .ok (.getfield 19, 3) := by decide +kernel
theorem d_K_substitutedHypotheses_43 : decode b_K_substitutedHypotheses 43 = .ok (.iload 7, 2) := by decide +kernel
theorem d_K_substitutedHypotheses_45 : decode b_K_substitutedHypotheses 45 = .ok (.invokevirtual 69, 3) := by decide +kernel
theorem d_K_substitutedHypotheses_48 : decode b_K_substitutedHypotheses 48 = .ok (.iload_n 2, 1) := by decide +kernel
theorem d_K_substitutedHypotheses_49 : decode b_K_substitutedHypotheses 49 = .ok (.invokevirtual 215, 3) := by decide +kernel
theorem d_K_substitutedHypotheses_52 : decode b_K_substitutedHypotheses 52 = .ok (.aload_n 0, 1) := by decide +kernel
theorem d_K_substitutedHypotheses_53 : decode b_K_substitutedHypotheses 53 = .ok (.getfield 19, 3) := by decide +kernel
theorem d_K_substitutedHypotheses_56 : decode b_K_substitutedHypotheses 56 = .ok (.aload_n 0, 1) := by decide +kernel
theorem d_K_substitutedHypotheses_57 : decode b_K_substitutedHypotheses 57 = .ok (.getfield 28, 3) := by decide +kernel
theorem d_K_substitutedHypotheses_60 : decode b_K_substitutedHypotheses 60 = .ok (.invokevirtual 60, 3) := by decide +kernel
theorem d_K_substitutedHypotheses_63 : decode b_K_substitutedHypotheses 63 = .ok (.istore 8, 2) := by decide +kernel
theorem d_K_substitutedHypotheses_65 : decode b_K_substitutedHypotheses 65 = .ok (.iload 8, 2) := by decide +kernel
theorem d_K_substitutedHypotheses_67 : decode b_K_substitutedHypotheses 67 = .ok (.bipush (-4), 2) := by decide +kernel
theorem d_K_substitutedHypotheses_69 : decode b_K_substitutedHypotheses 69 = .ok (.if_icmp .ne 7, 3) := by decide +kernel
theorem d_K_substitutedHypotheses_72 : decode b_K_substitutedHypotheses 72 = .ok (.ldc2_w 206, 3) := by decide +kernel
theorem d_K_substitutedHypotheses_75 : decode b_K_substitutedHypotheses 75 = .ok (.lreturn, 1) := by decide +kernel
theorem d_K_substitutedHypotheses_76 : decode b_K_substitutedHypotheses 76 = .ok (.lload 5, 2) := by decide +kernel
theorem d_K_substitutedHypotheses_78 : decode b_K_substitutedHypotheses 78 = .ok (.lconst 1, 1) := by decide +kernel
theorem d_K_substitutedHypotheses_79 : decode b_K_substitutedHypotheses 79 = .ok (.iload 8, 2) := by decide +kernel
theorem d_K_substitutedHypotheses_81 : decode b_K_substitutedHypotheses 81 = .ok (.lshl, 1) := by decide +kernel
theorem d_K_substitutedHypotheses_82 : decode b_K_substitutedHypotheses 82 = .ok (.lor, 1) := by decide +kernel
theorem d_K_substitutedHypotheses_83 : decode b_K_substitutedHypotheses 83 = .ok (.lstore 5, 2) := by decide +kernel
theorem d_K_substitutedHypotheses_85 : decode b_K_substitutedHypotheses 85 = .ok (.iinc 7 1, 3) := by decide +kernel
theorem d_K_substitutedHypotheses_88 : decode b_K_substitutedHypotheses 88 = .ok (.goto (-73), 3) := by decide +kernel
theorem d_K_substitutedHypotheses_91 : decode b_K_substitutedHypotheses 91 = .ok (.lload 5, 2) := by decide +kernel
theorem d_K_substitutedHypotheses_93 : decode b_K_substitutedHypotheses 93 = .ok (.lreturn, 1) := by decide +kernel
theorem d_K_draftSubstituted_0 : decode b_K_draftSubstituted 0 = .ok (.aload_n 0, 1) := by decide +kernel
theorem d_K_draftSubstituted_1 : decode b_K_draftSubstituted 1 = .ok (.getfield 19, 3) := by decide +kernel
theorem d_K_draftSubstituted_4 : decode b_K_draftSubstituted 4 = .ok (.aload_n 0, 1) := by decide +kernel
theorem d_K_draftSubstituted_5 : decode b_K_draftSubstituted 5 = .ok (.getfield 19, 3) := by decide +kernel
theorem d_K_draftSubstituted_8 : decode b_K_draftSubstituted 8 = .ok (.iload_n 2, 1) := by decide +kernel
theorem d_K_draftSubstituted_9 : decode b_K_draftSubstituted 9 = .ok (.bipush 64, 2) := by decide +kernel
theorem d_K_draftSubstituted_11 : decode b_K_draftSubstituted 11 = .ok (.idiv, 1) := by decide +kernel
theorem d_K_draftSubstituted_12 : decode b_K_draftSubstituted 12 = .ok (.invokevirtual 69, 3) := by decide +kernel
theorem d_K_draftSubstituted_15 : decode b_K_draftSubstituted 15 = .ok (.invokevirtual 90, 3) := by decide +kernel
theorem d_K_draftSubstituted_18 : decode b_K_draftSubstituted 18 = .ok (.istore_n 3, 1) := by decide +kernel
theorem d_K_draftSubstituted_19 : decode b_K_draftSubstituted 19 = .ok (.aload_n 0, 1) := by decide +kernel
theorem d_K_draftSubstituted_20 : decode b_K_draftSubstituted 20 = .ok (.getfield 28, 3) := by decide +kernel
theorem d_K_draftSubstituted_23 : decode b_K_draftSubstituted 23 = .ok (.iload_n 1, 1) := by decide +kernel
theorem d_K_draftSubstituted_24 : decode b_K_draftSubstituted 24 = .ok (.iload_n 3, 1) := by decide +kernel
theorem d_K_draftSubstituted_25 : decode b_K_draftSubstituted 25 = .ok (.aload_n 0, 1) := by decide +kernel
theorem d_K_draftSubstituted_26 : decode b_K_draftSubstituted 26 = .ok (.getfield 19, 3) := by decide +kernel
theorem d_K_draftSubstituted_29 : decode b_K_draftSubstituted 29 = .ok (.iload_n 2, 1) := by decide +kernel
theorem d_K_draftSubstituted_30 : decode b_K_draftSubstituted 30 = .ok (.bipush 64, 2) := by decide +kernel
theorem d_K_draftSubstituted_32 : decode b_K_draftSubstituted 32 = .ok (.irem, 1) := by decide +kernel
theorem d_K_draftSubstituted_33 : decode b_K_draftSubstituted 33 = .ok (.invokevirtual 69, 3) := by decide +kernel
theorem d_K_draftSubstituted_36 : decode b_K_draftSubstituted 36 = .ok (.invokevirtual 218, 3) := by decide +kernel
theorem d_K_draftSubstituted_39 : decode b_K_draftSubstituted 39 = .ok (.return_, 1) := by decide +kernel
theorem d_K_draftConclusion_0 : decode b_K_draftConclusion 0 = .ok (.aload_n 0, 1) := by decide +kernel
theorem d_K_draftConclusion_1 : decode b_K_draftConclusion 1 = .ok (.getstatic 107, 3) := by decide +kernel
theorem d_K_draftConclusion_4 : decode b_K_draftConclusion 4 = .ok (.iload_n 1, 1) := by decide +kernel
theorem d_K_draftConclusion_5 : decode b_K_draftConclusion 5 = .ok (.iaload, 1) := by decide +kernel
theorem d_K_draftConclusion_6 : decode b_K_draftConclusion 6 = .ok (.iload_n 2, 1) := by decide +kernel
theorem d_K_draftConclusion_7 : decode b_K_draftConclusion 7 = .ok (.invokevirtual 182, 3) := by decide +kernel
theorem d_K_draftConclusion_10 : decode b_K_draftConclusion 10 = .ok (.istore 4, 2) := by decide +kernel
theorem d_K_draftConclusion_12 : decode b_K_draftConclusion 12 = .ok (.aload_n 0, 1) := by decide +kernel
theorem d_K_draftConclusion_13 : decode b_K_draftConclusion 13 = .ok (.getstatic 114, 3) := by decide +kernel
theorem d_K_draftConclusion_16 : decode b_K_draftConclusion 16 = .ok (.iload_n 1, 1) := by decide +kernel
theorem d_K_draftConclusion_17 : decode b_K_draftConclusion 17 = .ok (.iaload, 1) := by decide +kernel
theorem d_K_draftConclusion_18 : decode b_K_draftConclusion 18 = .ok (.iload_n 3, 1) := by decide +kernel
theorem d_K_draftConclusion_19 : decode b_K_draftConclusion 19 = .ok (.invokevirtual 182, 3) := by decide +kernel
theorem d_K_draftConclusion_22 : decode b_K_draftConclusion 22 = .ok (.istore 5, 2) := by decide +kernel
theorem d_K_draftConclusion_24 : decode b_K_draftConclusion 24 = .ok (.iload_n 1, 1) := by decide +kernel
theorem d_K_draftConclusion_25 : decode b_K_draftConclusion 25 = .ok (.tableswitch 382 2 13 #[63, 76, 95, 118, 139, 152, 179, 206, 267, 314, 76, 372], 63) := by decide +kernel
theorem d_K_draftConclusion_88 : decode b_K_draftConclusion 88 = .ok (.aload_n 0, 1) := by decide +kernel
theorem d_K_draftConclusion_89 : decode b_K_draftConclusion 89 = .ok (.bipush 6, 2) := by decide +kernel
theorem d_K_draftConclusion_91 : decode b_K_draftConclusion 91 = .ok (.iload 5, 2) := by decide +kernel
theorem d_K_draftConclusion_93 : decode b_K_draftConclusion 93 = .ok (.iload 4, 2) := by decide +kernel
theorem d_K_draftConclusion_95 : decode b_K_draftConclusion 95 = .ok (.invokevirtual 103, 3) := by decide +kernel
theorem d_K_draftConclusion_98 : decode b_K_draftConclusion 98 = .ok (.goto 318, 3) := by decide +kernel
theorem d_K_draftConclusion_101 : decode b_K_draftConclusion 101 = .ok (.aload_n 0, 1) := by decide +kernel
theorem d_K_draftConclusion_102 : decode b_K_draftConclusion 102 = .ok (.getfield 28, 3) := by decide +kernel
theorem d_K_draftConclusion_105 : decode b_K_draftConclusion 105 = .ok (.aload_n 0, 1) := by decide +kernel
theorem d_K_draftConclusion_106 : decode b_K_draftConclusion 106 = .ok (.getfield 19, 3) := by decide +kernel
theorem d_K_draftConclusion_109 : decode b_K_draftConclusion 109 = .ok (.iload 4, 2) := by decide +kernel
theorem d_K_draftConclusion_111 : decode b_K_draftConclusion 111 = .ok (.invokevirtual 191, 3) := by decide +kernel
theorem d_K_draftConclusion_114 : decode b_K_draftConclusion 114 = .ok (.invokevirtual 176, 3) := by decide +kernel
theorem d_K_draftConclusion_117 : decode b_K_draftConclusion 117 = .ok (.goto 299, 3) := by decide +kernel
theorem d_K_draftConclusion_120 : decode b_K_draftConclusion 120 = .ok (.aload_n 0, 1) := by decide +kernel
theorem d_K_draftConclusion_121 : decode b_K_draftConclusion 121 = .ok (.getfield 28, 3) := by decide +kernel
theorem d_K_draftConclusion_124 : decode b_K_draftConclusion 124 = .ok (.iconst 4, 1) := by decide +kernel
theorem d_K_draftConclusion_125 : decode b_K_draftConclusion 125 = .ok (.iconst 0, 1) := by decide +kernel
theorem d_K_draftConclusion_126 : decode b_K_draftConclusion 126 = .ok (.aload_n 0, 1) := by decide +kernel
theorem d_K_draftConclusion_127 : decode b_K_draftConclusion 127 = .ok (.getfield 19, 3) := by decide +kernel
theorem d_K_draftConclusion_130 : decode b_K_draftConclusion 130 = .ok (.iload 5, 2) := by decide +kernel
theorem d_K_draftConclusion_132 : decode b_K_draftConclusion 132 = .ok (.invokevirtual 90, 3) := by decide +kernel
theorem d_K_draftConclusion_135 : decode b_K_draftConclusion 135 = .ok (.iload 4, 2) := by decide +kernel
theorem d_K_draftConclusion_137 : decode b_K_draftConclusion 137 = .ok (.invokevirtual 93, 3) := by decide +kernel
theorem d_K_draftConclusion_140 : decode b_K_draftConclusion 140 = .ok (.goto 276, 3) := by decide +kernel
theorem d_K_draftConclusion_143 : decode b_K_draftConclusion 143 = .ok (.aload_n 0, 1) := by decide +kernel
theorem d_K_draftConclusion_144 : decode b_K_draftConclusion 144 = .ok (.getfield 28, 3) := by decide +kernel
theorem d_K_draftConclusion_147 : decode b_K_draftConclusion 147 = .ok (.aload_n 0, 1) := by decide +kernel
theorem d_K_draftConclusion_148 : decode b_K_draftConclusion 148 = .ok (.getfield 19, 3) := by decide +kernel
theorem d_K_draftConclusion_151 : decode b_K_draftConclusion 151 = .ok (.iload 4, 2) := by decide +kernel
theorem d_K_draftConclusion_153 : decode b_K_draftConclusion 153 = .ok (.invokevirtual 185, 3) := by decide +kernel
theorem d_K_draftConclusion_156 : decode b_K_draftConclusion 156 = .ok (.iload 5, 2) := by decide +kernel
theorem d_K_draftConclusion_158 : decode b_K_draftConclusion 158 = .ok (.invokevirtual 221, 3) := by decide +kernel
theorem d_K_draftConclusion_161 : decode b_K_draftConclusion 161 = .ok (.goto 255, 3) := by decide +kernel
theorem d_K_draftConclusion_164 : decode b_K_draftConclusion 164 = .ok (.aload_n 0, 1) := by decide +kernel
theorem d_K_draftConclusion_165 : decode b_K_draftConclusion 165 = .ok (.bipush 7, 2) := by decide +kernel
theorem d_K_draftConclusion_167 : decode b_K_draftConclusion 167 = .ok (.iload 4, 2) := by decide +kernel
theorem d_K_draftConclusion_169 : decode b_K_draftConclusion 169 = .ok (.iload 4, 2) := by decide +kernel
theorem d_K_draftConclusion_171 : decode b_K_draftConclusion 171 = .ok (.invokevirtual 103, 3) := by decide +kernel
theorem d_K_draftConclusion_174 : decode b_K_draftConclusion 174 = .ok (.goto 242, 3) := by decide +kernel
theorem d_K_draftConclusion_177 : decode b_K_draftConclusion 177 = .ok (.aload_n 0, 1) := by decide +kernel
theorem d_K_draftConclusion_178 : decode b_K_draftConclusion 178 = .ok (.bipush 7, 2) := by decide +kernel
theorem d_K_draftConclusion_180 : decode b_K_draftConclusion 180 = .ok (.aload_n 0, 1) := by decide +kernel
theorem d_K_draftConclusion_181 : decode b_K_draftConclusion 181 = .ok (.getfield 19, 3) := by decide +kernel
theorem d_K_draftConclusion_184 : decode b_K_draftConclusion 184 = .ok (.iload 4, 2) := by decide +kernel
theorem d_K_draftConclusion_186 : decode b_K_draftConclusion 186 = .ok (.invokevirtual 191, 3) := by decide +kernel
theorem d_K_draftConclusion_189 : decode b_K_draftConclusion 189 = .ok (.aload_n 0, 1) := by decide +kernel
theorem d_K_draftConclusion_190 : decode b_K_draftConclusion 190 = .ok (.getfield 19, 3) := by decide +kernel
theorem d_K_draftConclusion_193 : decode b_K_draftConclusion 193 = .ok (.iload 4, 2) := by decide +kernel
theorem d_K_draftConclusion_195 : decode b_K_draftConclusion 195 = .ok (.invokevirtual 185, 3) := by decide +kernel
theorem d_K_draftConclusion_198 : decode b_K_draftConclusion 198 = .ok (.invokevirtual 103, 3) := by decide +kernel
theorem d_K_draftConclusion_201 : decode b_K_draftConclusion 201 = .ok (.goto 215, 3) := by decide +kernel
theorem d_K_draftConclusion_204 : decode b_K_draftConclusion 204 = .ok (.aload_n 0, 1) := by decide +kernel
theorem d_K_draftConclusion_205 : decode b_K_draftConclusion 205 = .ok (.bipush 7, 2) := by decide +kernel
theorem d_K_draftConclusion_207 : decode b_K_draftConclusion 207 = .ok (.aload_n 0, 1) := by decide +kernel
theorem d_K_draftConclusion_208 : decode b_K_draftConclusion 208 = .ok (.getfield 19, 3) := by decide +kernel
theorem d_K_draftConclusion_211 : decode b_K_draftConclusion 211 = .ok (.iload 4, 2) := by decide +kernel
theorem d_K_draftConclusion_213 : decode b_K_draftConclusion 213 = .ok (.invokevirtual 185, 3) := by decide +kernel
theorem d_K_draftConclusion_216 : decode b_K_draftConclusion 216 = .ok (.aload_n 0, 1) := by decide +kernel
theorem d_K_draftConclusion_217 : decode b_K_draftConclusion 217 = .ok (.getfield 19, 3) := by decide +kernel
theorem d_K_draftConclusion_220 : decode b_K_draftConclusion 220 = .ok (.iload 5, 2) := by decide +kernel
theorem d_K_draftConclusion_222 : decode b_K_draftConclusion 222 = .ok (.invokevirtual 191, 3) := by decide +kernel
theorem d_K_draftConclusion_225 : decode b_K_draftConclusion 225 = .ok (.invokevirtual 103, 3) := by decide +kernel
theorem d_K_draftConclusion_228 : decode b_K_draftConclusion 228 = .ok (.goto 188, 3) := by decide +kernel
theorem d_K_draftConclusion_231 : decode b_K_draftConclusion 231 = .ok (.aload_n 0, 1) := by decide +kernel
theorem d_K_draftConclusion_232 : decode b_K_draftConclusion 232 = .ok (.getfield 28, 3) := by decide +kernel
theorem d_K_draftConclusion_235 : decode b_K_draftConclusion 235 = .ok (.bipush 7, 2) := by decide +kernel
theorem d_K_draftConclusion_237 : decode b_K_draftConclusion 237 = .ok (.iconst 0, 1) := by decide +kernel
theorem d_K_draftConclusion_238 : decode b_K_draftConclusion 238 = .ok (.iconst 0, 1) := by decide +kernel
theorem d_K_draftConclusion_239 : decode b_K_draftConclusion 239 = .ok (.invokestatic 50, 3) := by decide +kernel
theorem d_K_draftConclusion_242 : decode b_K_draftConclusion 242 = .ok (.invokevirtual 56, 3) := by decide +kernel
theorem d_K_draftConclusion_245 : decode b_K_draftConclusion 245 = .ok (.aload_n 0, 1) := by decide +kernel
theorem d_K_draftConclusion_246 : decode b_K_draftConclusion 246 = .ok (.aload_n 0, 1) := by decide +kernel
theorem d_K_draftConclusion_247 : decode b_K_draftConclusion 247 = .ok (.getfield 19, 3) := by decide +kernel
theorem d_K_draftConclusion_250 : decode b_K_draftConclusion 250 = .ok (.iload 4, 2) := by decide +kernel
theorem d_K_draftConclusion_252 : decode b_K_draftConclusion 252 = .ok (.invokevirtual 185, 3) := by decide +kernel
theorem d_K_draftConclusion_255 : decode b_K_draftConclusion 255 = .ok (.aload_n 0, 1) := by decide +kernel
theorem d_K_draftConclusion_256 : decode b_K_draftConclusion 256 = .ok (.getfield 19, 3) := by decide +kernel
theorem d_K_draftConclusion_259 : decode b_K_draftConclusion 259 = .ok (.iload 5, 2) := by decide +kernel
theorem d_K_draftConclusion_261 : decode b_K_draftConclusion 261 = .ok (.invokevirtual 185, 3) := by decide +kernel
theorem d_K_draftConclusion_264 : decode b_K_draftConclusion 264 = .ok (.invokevirtual 79, 3) := by decide +kernel
theorem d_K_draftConclusion_267 : decode b_K_draftConclusion 267 = .ok (.aload_n 0, 1) := by decide +kernel
theorem d_K_draftConclusion_268 : decode b_K_draftConclusion 268 = .ok (.aload_n 0, 1) := by decide +kernel
theorem d_K_draftConclusion_269 : decode b_K_draftConclusion 269 = .ok (.getfield 19, 3) := by decide +kernel
theorem d_K_draftConclusion_272 : decode b_K_draftConclusion 272 = .ok (.iload 4, 2) := by decide +kernel
theorem d_K_draftConclusion_274 : decode b_K_draftConclusion 274 = .ok (.invokevirtual 191, 3) := by decide +kernel
theorem d_K_draftConclusion_277 : decode b_K_draftConclusion 277 = .ok (.aload_n 0, 1) := by decide +kernel
theorem d_K_draftConclusion_278 : decode b_K_draftConclusion 278 = .ok (.getfield 19, 3) := by decide +kernel
theorem d_K_draftConclusion_281 : decode b_K_draftConclusion 281 = .ok (.iload 5, 2) := by decide +kernel
theorem d_K_draftConclusion_283 : decode b_K_draftConclusion 283 = .ok (.invokevirtual 191, 3) := by decide +kernel
theorem d_K_draftConclusion_286 : decode b_K_draftConclusion 286 = .ok (.invokevirtual 79, 3) := by decide +kernel
theorem d_K_draftConclusion_289 : decode b_K_draftConclusion 289 = .ok (.goto 127, 3) := by decide +kernel
theorem d_K_draftConclusion_292 : decode b_K_draftConclusion 292 = .ok (.aload_n 0, 1) := by decide +kernel
theorem d_K_draftConclusion_293 : decode b_K_draftConclusion 293 = .ok (.getfield 28, 3) := by decide +kernel
theorem d_K_draftConclusion_296 : decode b_K_draftConclusion 296 = .ok (.bipush 7, 2) := by decide +kernel
theorem d_K_draftConclusion_298 : decode b_K_draftConclusion 298 = .ok (.iconst 0, 1) := by decide +kernel
theorem d_K_draftConclusion_299 : decode b_K_draftConclusion 299 = .ok (.iconst 0, 1) := by decide +kernel
theorem d_K_draftConclusion_300 : decode b_K_draftConclusion 300 = .ok (.invokestatic 50, 3) := by decide +kernel
theorem d_K_draftConclusion_303 : decode b_K_draftConclusion 303 = .ok (.invokevirtual 56, 3) := by decide +kernel
theorem d_K_draftConclusion_306 : decode b_K_draftConclusion 306 = .ok (.aload_n 0, 1) := by decide +kernel
theorem d_K_draftConclusion_307 : decode b_K_draftConclusion 307 = .ok (.iload 5, 2) := by decide +kernel
theorem d_K_draftConclusion_309 : decode b_K_draftConclusion 309 = .ok (.aload_n 0, 1) := by decide +kernel
theorem d_K_draftConclusion_310 : decode b_K_draftConclusion 310 = .ok (.getfield 19, 3) := by decide +kernel
theorem d_K_draftConclusion_313 : decode b_K_draftConclusion 313 = .ok (.iload 4, 2) := by decide +kernel
theorem d_K_draftConclusion_315 : decode b_K_draftConclusion 315 = .ok (.invokevirtual 185, 3) := by decide +kernel
theorem d_K_draftConclusion_318 : decode b_K_draftConclusion 318 = .ok (.invokevirtual 97, 3) := by decide +kernel
theorem d_K_draftConclusion_321 : decode b_K_draftConclusion 321 = .ok (.aload_n 0, 1) := by decide +kernel
theorem d_K_draftConclusion_322 : decode b_K_draftConclusion 322 = .ok (.iload 5, 2) := by decide +kernel
theorem d_K_draftConclusion_324 : decode b_K_draftConclusion 324 = .ok (.aload_n 0, 1) := by decide +kernel
theorem d_K_draftConclusion_325 : decode b_K_draftConclusion 325 = .ok (.getfield 19, 3) := by decide +kernel
theorem d_K_draftConclusion_328 : decode b_K_draftConclusion 328 = .ok (.iload 4, 2) := by decide +kernel
theorem d_K_draftConclusion_330 : decode b_K_draftConclusion 330 = .ok (.invokevirtual 191, 3) := by decide +kernel
theorem d_K_draftConclusion_333 : decode b_K_draftConclusion 333 = .ok (.invokevirtual 97, 3) := by decide +kernel
theorem d_K_draftConclusion_336 : decode b_K_draftConclusion 336 = .ok (.goto 80, 3) := by decide +kernel
theorem d_K_draftConclusion_339 : decode b_K_draftConclusion 339 = .ok (.aload_n 0, 1) := by decide +kernel
theorem d_K_draftConclusion_340 : decode b_K_draftConclusion 340 = .ok (.getfield 28, 3) := by decide +kernel
theorem d_K_draftConclusion_343 : decode b_K_draftConclusion 343 = .ok (.bipush 7, 2) := by decide +kernel
theorem d_K_draftConclusion_345 : decode b_K_draftConclusion 345 = .ok (.iconst 0, 1) := by decide +kernel
theorem d_K_draftConclusion_346 : decode b_K_draftConclusion 346 = .ok (.iconst 0, 1) := by decide +kernel
theorem d_K_draftConclusion_347 : decode b_K_draftConclusion 347 = .ok (.invokestatic 50, 3) := by decide +kernel
theorem d_K_draftConclusion_350 : decode b_K_draftConclusion 350 = .ok (.invokevirtual 56, 3) := by decide +kernel
theorem d_K_draftConclusion_353 : decode b_K_draftConclusion 353 = .ok (.aload_n 0, 1) := by decide +kernel
theorem d_K_draftConclusion_354 : decode b_K_draftConclusion 354 = .ok (.getfield 28, 3) := by decide +kernel
theorem d_K_draftConclusion_357 : decode b_K_draftConclusion 357 = .ok (.iload 4, 2) := by decide +kernel
theorem d_K_draftConclusion_359 : decode b_K_draftConclusion 359 = .ok (.invokevirtual 176, 3) := by decide +kernel
theorem d_K_draftConclusion_362 : decode b_K_draftConclusion 362 = .ok (.aload_n 0, 1) := by decide +kernel
theorem d_K_draftConclusion_363 : decode b_K_draftConclusion 363 = .ok (.getfield 28, 3) := by decide +kernel
theorem d_K_draftConclusion_366 : decode b_K_draftConclusion 366 = .ok (.aload_n 0, 1) := by decide +kernel
theorem d_K_draftConclusion_367 : decode b_K_draftConclusion 367 = .ok (.getfield 19, 3) := by decide +kernel
theorem d_K_draftConclusion_370 : decode b_K_draftConclusion 370 = .ok (.aload_n 0, 1) := by decide +kernel
theorem d_K_draftConclusion_371 : decode b_K_draftConclusion 371 = .ok (.getfield 19, 3) := by decide +kernel
theorem d_K_draftConclusion_374 : decode b_K_draftConclusion 374 = .ok (.iload 4, 2) := by decide +kernel
theorem d_K_draftConclusion_376 : decode b_K_draftConclusion 376 = .ok (.invokevirtual 185, 3) := by decide +kernel
theorem d_K_draftConclusion_379 : decode b_K_draftConclusion 379 = .ok (.invokevirtual 185, 3) := by decide +kernel
theorem d_K_draftConclusion_382 : decode b_K_draftConclusion 382 = .ok (.aload_n 0, 1) := by decide +kernel
theorem d_K_draftConclusion_383 : decode b_K_draftConclusion 383 = .ok (.getfield 19, 3) := by decide +kernel
theorem d_K_draftConclusion_386 : decode b_K_draftConclusion 386 = .ok (.iload 4, 2) := by decide +kernel
theorem d_K_draftConclusion_388 : decode b_K_draftConclusion 388 = .ok (.invokevirtual 191, 3) := by decide +kernel
theorem d_K_draftConclusion_391 : decode b_K_draftConclusion 391 = .ok (.invokevirtual 221, 3) := by decide +kernel
theorem d_K_draftConclusion_394 : decode b_K_draftConclusion 394 = .ok (.goto 22, 3) := by decide +kernel
theorem d_K_draftConclusion_397 : decode b_K_draftConclusion 397 = .ok (.aload_n 0, 1) := by decide +kernel
theorem d_K_draftConclusion_398 : decode b_K_draftConclusion 398 = .ok (.iload 4, 2) := by decide +kernel
theorem d_K_draftConclusion_400 : decode b_K_draftConclusion 400 = .ok (.iload_n 3, 1) := by decide +kernel
theorem d_K_draftConclusion_401 : decode b_K_draftConclusion 401 = .ok (.invokevirtual 215, 3) := by decide +kernel
theorem d_K_draftConclusion_404 : decode b_K_draftConclusion 404 = .ok (.goto 12, 3) := by decide +kernel
theorem d_K_draftConclusion_407 : decode b_K_draftConclusion 407 = .ok (.aload_n 0, 1) := by decide +kernel
theorem d_K_draftConclusion_408 : decode b_K_draftConclusion 408 = .ok (.getfield 28, 3) := by decide +kernel
theorem d_K_draftConclusion_411 : decode b_K_draftConclusion 411 = .ok (.iload 4, 2) := by decide +kernel
theorem d_K_draftConclusion_413 : decode b_K_draftConclusion 413 = .ok (.invokevirtual 176, 3) := by decide +kernel
theorem d_K_draftConclusion_416 : decode b_K_draftConclusion 416 = .ok (.return_, 1) := by decide +kernel
theorem d_K_isIn_0 : decode b_K_isIn 0 = .ok (.lload_n 0, 1) := by decide +kernel
theorem d_K_isIn_1 : decode b_K_isIn 1 = .ok (.iload_n 2, 1) := by decide +kernel
theorem d_K_isIn_2 : decode b_K_isIn 2 = .ok (.lshr, 1) := by decide +kernel
theorem d_K_isIn_3 : decode b_K_isIn 3 = .ok (.lconst 1, 1) := by decide +kernel
theorem d_K_isIn_4 : decode b_K_isIn 4 = .ok (.land, 1) := by decide +kernel
theorem d_K_isIn_5 : decode b_K_isIn 5 = .ok (.lconst 0, 1) := by decide +kernel
theorem d_K_isIn_6 : decode b_K_isIn 6 = .ok (.lcmp, 1) := by decide +kernel
theorem d_K_isIn_7 : decode b_K_isIn 7 = .ok (.ifCond .eq 7, 3) := by decide +kernel
theorem d_K_isIn_10 : decode b_K_isIn 10 = .ok (.iconst 1, 1) := by decide +kernel
theorem d_K_isIn_11 : decode b_K_isIn 11 = .ok (.goto 4, 3) := by decide +kernel
theorem d_K_isIn_14 : decode b_K_isIn 14 = .ok (.iconst 0, 1) := by decide +kernel
theorem d_K_isIn_15 : decode b_K_isIn 15 = .ok (.ireturn, 1) := by decide +kernel
end
section
theorem d_B_init_0 : decode b_B_init 0 = .ok (.aload_n 0, 1) := by decide +kernel
theorem d_B_init_1 : decode b_B_init 1 = .ok (.invokespecial 3, 3) := by decide +kernel
theorem d_B_init_4 : decode b_B_init 4 = .ok (.aload_n 0, 1) := by decide +kernel
theorem d_B_init_5 : decode b_B_init 5 = .ok (.bipush 40, 2) := by decide +kernel
theorem d_B_init_7 : decode b_B_init 7 = .ok (.newarray .long, 2) := by decide +kernel
theorem d_B_init_9 : decode b_B_init 9 = .ok (.putfield 9, 3) := by decide +kernel
theorem d_B_init_12 : decode b_B_init 12 = .ok (.aload_n 0, 1) := by decide +kernel
theorem d_B_init_13 : decode b_B_init 13 = .ok (.bipush 40, 2) := by decide +kernel
theorem d_B_init_15 : decode b_B_init 15 = .ok (.newarray .int, 2) := by decide +kernel
theorem d_B_init_17 : decode b_B_init 17 = .ok (.putfield 15, 3) := by decide +kernel
theorem d_B_init_20 : decode b_B_init 20 = .ok (.aload_n 0, 1) := by decide +kernel
theorem d_B_init_21 : decode b_B_init 21 = .ok (.bipush 40, 2) := by decide +kernel
theorem d_B_init_23 : decode b_B_init 23 = .ok (.newarray .int, 2) := by decide +kernel
theorem d_B_init_25 : decode b_B_init 25 = .ok (.putfield 19, 3) := by decide +kernel
theorem d_B_init_28 : decode b_B_init 28 = .ok (.aload_n 0, 1) := by decide +kernel
theorem d_B_init_29 : decode b_B_init 29 = .ok (.bipush 40, 2) := by decide +kernel
theorem d_B_init_31 : decode b_B_init 31 = .ok (.newarray .int, 2) := by decide +kernel
theorem d_B_init_33 : decode b_B_init 33 = .ok (.putfield 22, 3) := by decide +kernel
theorem d_B_init_36 : decode b_B_init 36 = .ok (.aload_n 0, 1) := by decide +kernel
theorem d_B_init_37 : decode b_B_init 37 = .ok (.bipush 40, 2) := by decide +kernel
theorem d_B_init_39 : decode b_B_init 39 = .ok (.newarray .int, 2) := by decide +kernel
theorem d_B_init_41 : decode b_B_init 41 = .ok (.putfield 25, 3) := by decide +kernel
theorem d_B_init_44 : decode b_B_init 44 = .ok (.aload_n 0, 1) := by decide +kernel
theorem d_B_init_45 : decode b_B_init 45 = .ok (.bipush 40, 2) := by decide +kernel
theorem d_B_init_47 : decode b_B_init 47 = .ok (.newarray .int, 2) := by decide +kernel
theorem d_B_init_49 : decode b_B_init 49 = .ok (.putfield 28, 3) := by decide +kernel
theorem d_B_init_52 : decode b_B_init 52 = .ok (.return_, 1) := by decide +kernel
theorem d_B_count_0 : decode b_B_count 0 = .ok (.aload_n 0, 1) := by decide +kernel
theorem d_B_count_1 : decode b_B_count 1 = .ok (.getfield 31, 3) := by decide +kernel
theorem d_B_count_4 : decode b_B_count 4 = .ok (.ireturn, 1) := by decide +kernel
theorem d_B_has_0 : decode b_B_has 0 = .ok (.iload_n 1, 1) := by decide +kernel
theorem d_B_has_1 : decode b_B_has 1 = .ok (.ifCond .lt 15, 3) := by decide +kernel
theorem d_B_has_4 : decode b_B_has 4 = .ok (.iload_n 1, 1) := by decide +kernel
theorem d_B_has_5 : decode b_B_has 5 = .ok (.aload_n 0, 1) := by decide +kernel
theorem d_B_has_6 : decode b_B_has 6 = .ok (.getfield 31, 3) := by decide +kernel
theorem d_B_has_9 : decode b_B_has 9 = .ok (.if_icmp .ge 7, 3) := by decide +kernel
theorem d_B_has_12 : decode b_B_has 12 = .ok (.iconst 1, 1) := by decide +kernel
theorem d_B_has_13 : decode b_B_has 13 = .ok (.goto 4, 3) := by decide +kernel
theorem d_B_has_16 : decode b_B_has 16 = .ok (.iconst 0, 1) := by decide +kernel
theorem d_B_has_17 : decode b_B_has 17 = .ok (.ireturn, 1) := by decide +kernel
theorem d_B_isFull_0 : decode b_B_isFull 0 = .ok (.aload_n 0, 1) := by decide +kernel
theorem d_B_isFull_1 : decode b_B_isFull 1 = .ok (.getfield 31, 3) := by decide +kernel
theorem d_B_isFull_4 : decode b_B_isFull 4 = .ok (.bipush 40, 2) := by decide +kernel
theorem d_B_isFull_6 : decode b_B_isFull 6 = .ok (.if_icmp .ne 7, 3) := by decide +kernel
theorem d_B_isFull_9 : decode b_B_isFull 9 = .ok (.iconst 1, 1) := by decide +kernel
theorem d_B_isFull_10 : decode b_B_isFull 10 = .ok (.goto 4, 3) := by decide +kernel
theorem d_B_isFull_13 : decode b_B_isFull 13 = .ok (.iconst 0, 1) := by decide +kernel
theorem d_B_isFull_14 : decode b_B_isFull 14 = .ok (.ireturn, 1) := by decide +kernel
theorem d_B_hypothesesOf_0 : decode b_B_hypothesesOf 0 = .ok (.aload_n 0, 1) := by decide +kernel
theorem d_B_hypothesesOf_1 : decode b_B_hypothesesOf 1 = .ok (.getfield 9, 3) := by decide +kernel
theorem d_B_hypothesesOf_4 : decode b_B_hypothesesOf 4 = .ok (.iload_n 1, 1) := by decide +kernel
theorem d_B_hypothesesOf_5 : decode b_B_hypothesesOf 5 = .ok (.laload, 1) := by decide +kernel
theorem d_B_hypothesesOf_6 : decode b_B_hypothesesOf 6 = .ok (.lreturn, 1) := by decide +kernel
theorem d_B_conclusionOf_0 : decode b_B_conclusionOf 0 = .ok (.aload_n 0, 1) := by decide +kernel
theorem d_B_conclusionOf_1 : decode b_B_conclusionOf 1 = .ok (.getfield 15, 3) := by decide +kernel
theorem d_B_conclusionOf_4 : decode b_B_conclusionOf 4 = .ok (.iload_n 1, 1) := by decide +kernel
theorem d_B_conclusionOf_5 : decode b_B_conclusionOf 5 = .ok (.iaload, 1) := by decide +kernel
theorem d_B_conclusionOf_6 : decode b_B_conclusionOf 6 = .ok (.ireturn, 1) := by decide +kernel
theorem d_B_axiomsOf_0 : decode b_B_axiomsOf 0 = .ok (.lconst 1, 1) := by decide +kernel
theorem d_B_axiomsOf_1 : decode b_B_axiomsOf 1 = .ok (.iload_n 1, 1) := by decide +kernel
theorem d_B_axiomsOf_2 : decode b_B_axiomsOf 2 = .ok (.lshl, 1) := by decide +kernel
theorem d_B_axiomsOf_3 : decode b_B_axiomsOf 3 = .ok (.lstore_n 2, 1) := by decide +kernel
theorem d_B_axiomsOf_4 : decode b_B_axiomsOf 4 = .ok (.lconst 0, 1) := by decide +kernel
theorem d_B_axiomsOf_5 : decode b_B_axiomsOf 5 = .ok (.lstore 4, 2) := by decide +kernel
theorem d_B_axiomsOf_7 : decode b_B_axiomsOf 7 = .ok (.iload_n 1, 1) := by decide +kernel
theorem d_B_axiomsOf_8 : decode b_B_axiomsOf 8 = .ok (.istore 6, 2) := by decide +kernel
theorem d_B_axiomsOf_10 : decode b_B_axiomsOf 10 = .ok (.iload 6, 2) := by decide +kernel
theorem d_B_axiomsOf_12 : decode b_B_axiomsOf 12 = .ok (.ifCond .lt 59, 3) := by decide +kernel
theorem d_B_axiomsOf_15 : decode b_B_axiomsOf 15 = .ok (.lload_n 2, 1) := by decide +kernel
theorem d_B_axiomsOf_16 : decode b_B_axiomsOf 16 = .ok (.iload 6, 2) := by decide +kernel
theorem d_B_axiomsOf_18 : decode b_B_axiomsOf 18 = .ok (.invokestatic 35, 3) := by decide +kernel
theorem d_B_axiomsOf_21 : decode b_B_axiomsOf 21 = .ok (.ifCond .eq 44, 3) := by decide +kernel
theorem d_B_axiomsOf_24 : decode b_B_axiomsOf 24 = .ok (.lload_n 2, 1) := by decide +kernel
theorem d_B_axiomsOf_25 : decode b_B_axiomsOf 25 = .ok (.aload_n 0, 1) := by decide +kernel
theorem d_B_axiomsOf_26 : decode b_B_axiomsOf 26 = .ok (.iload 6, 2) := by decide +kernel
theorem d_B_axiomsOf_28 : decode b_B_axiomsOf 28 = .ok (.invokevirtual 39, 3) := by decide +kernel
theorem d_B_axiomsOf_31 : decode b_B_axiomsOf 31 = .ok (.invokestatic 43, 3) := by decide +kernel
theorem d_B_axiomsOf_34 : decode b_B_axiomsOf 34 = .ok (.aload_n 0, 1) := by decide +kernel
theorem d_B_axiomsOf_35 : decode b_B_axiomsOf 35 = .ok (.iload 6, 2) := by decide +kernel
theorem d_B_axiomsOf_37 : decode b_B_axiomsOf 37 = .ok (.invokevirtual 47, 3) := by decide +kernel
theorem d_B_axiomsOf_40 : decode b_B_axiomsOf 40 = .ok (.invokestatic 43, 3) := by decide +kernel
theorem d_B_axiomsOf_43 : decode b_B_axiomsOf 43 = .ok (.lor, 1) := by decide +kernel
theorem d_B_axiomsOf_44 : decode b_B_axiomsOf 44 = .ok (.lor, 1) := by decide +kernel
theorem d_B_axiomsOf_45 : decode b_B_axiomsOf 45 = .ok (.lstore_n 2, 1) := by decide +kernel
theorem d_B_axiomsOf_46 : decode b_B_axiomsOf 46 = .ok (.aload_n 0, 1) := by decide +kernel
theorem d_B_axiomsOf_47 : decode b_B_axiomsOf 47 = .ok (.getfield 19, 3) := by decide +kernel
theorem d_B_axiomsOf_50 : decode b_B_axiomsOf 50 = .ok (.iload 6, 2) := by decide +kernel
theorem d_B_axiomsOf_52 : decode b_B_axiomsOf 52 = .ok (.iaload, 1) := by decide +kernel
theorem d_B_axiomsOf_53 : decode b_B_axiomsOf 53 = .ok (.ifCond .ne 12, 3) := by decide +kernel
theorem d_B_axiomsOf_56 : decode b_B_axiomsOf 56 = .ok (.lload 4, 2) := by decide +kernel
theorem d_B_axiomsOf_58 : decode b_B_axiomsOf 58 = .ok (.lconst 1, 1) := by decide +kernel
theorem d_B_axiomsOf_59 : decode b_B_axiomsOf 59 = .ok (.iload 6, 2) := by decide +kernel
theorem d_B_axiomsOf_61 : decode b_B_axiomsOf 61 = .ok (.lshl, 1) := by decide +kernel
theorem d_B_axiomsOf_62 : decode b_B_axiomsOf 62 = .ok (.lor, 1) := by decide +kernel
theorem d_B_axiomsOf_63 : decode b_B_axiomsOf 63 = .ok (.lstore 4, 2) := by decide +kernel
theorem d_B_axiomsOf_65 : decode b_B_axiomsOf 65 = .ok (.iinc 6 (-1), 3) := by decide +kernel
theorem d_B_axiomsOf_68 : decode b_B_axiomsOf 68 = .ok (.goto (-58), 3) := by decide +kernel
theorem d_B_axiomsOf_71 : decode b_B_axiomsOf 71 = .ok (.lload 4, 2) := by decide +kernel
theorem d_B_axiomsOf_73 : decode b_B_axiomsOf 73 = .ok (.lreturn, 1) := by decide +kernel
theorem d_B_stepsOf_0 : decode b_B_stepsOf 0 = .ok (.iconst 0, 1) := by decide +kernel
theorem d_B_stepsOf_1 : decode b_B_stepsOf 1 = .ok (.istore_n 2, 1) := by decide +kernel
theorem d_B_stepsOf_2 : decode b_B_stepsOf 2 = .ok (.iload_n 2, 1) := by decide +kernel
theorem d_B_stepsOf_3 : decode b_B_stepsOf 3 = .ok (.iload_n 1, 1) := by decide +kernel
theorem d_B_stepsOf_4 : decode b_B_stepsOf 4 = .ok (.if_icmp .gt 43, 3) := by decide +kernel
theorem d_B_stepsOf_7 : decode b_B_stepsOf 7 = .ok (.iconst 1, 1) := by decide +kernel
theorem d_B_stepsOf_8 : decode b_B_stepsOf 8 = .ok (.aload_n 0, 1) := by decide +kernel
theorem d_B_stepsOf_9 : decode b_B_stepsOf 9 = .ok (.aload_n 0, 1) := by decide +kernel
theorem d_B_stepsOf_10 : decode b_B_stepsOf 10 = .ok (.iload_n 2, 1) := by decide +kernel
theorem d_B_stepsOf_11 : decode b_B_stepsOf 11 = .ok (.invokevirtual 39, 3) := by decide +kernel
theorem d_B_stepsOf_14 : decode b_B_stepsOf 14 = .ok (.invokevirtual 50, 3) := by decide +kernel
theorem d_B_stepsOf_17 : decode b_B_stepsOf 17 = .ok (.iadd, 1) := by decide +kernel
theorem d_B_stepsOf_18 : decode b_B_stepsOf 18 = .ok (.aload_n 0, 1) := by decide +kernel
theorem d_B_stepsOf_19 : decode b_B_stepsOf 19 = .ok (.aload_n 0, 1) := by decide +kernel
theorem d_B_stepsOf_20 : decode b_B_stepsOf 20 = .ok (.iload_n 2, 1) := by decide +kernel
theorem d_B_stepsOf_21 : decode b_B_stepsOf 21 = .ok (.invokevirtual 47, 3) := by decide +kernel
theorem d_B_stepsOf_24 : decode b_B_stepsOf 24 = .ok (.invokevirtual 50, 3) := by decide +kernel
theorem d_B_stepsOf_27 : decode b_B_stepsOf 27 = .ok (.iadd, 1) := by decide +kernel
theorem d_B_stepsOf_28 : decode b_B_stepsOf 28 = .ok (.istore_n 3, 1) := by decide +kernel
theorem d_B_stepsOf_29 : decode b_B_stepsOf 29 = .ok (.aload_n 0, 1) := by decide +kernel
theorem d_B_stepsOf_30 : decode b_B_stepsOf 30 = .ok (.getfield 28, 3) := by decide +kernel
theorem d_B_stepsOf_33 : decode b_B_stepsOf 33 = .ok (.iload_n 2, 1) := by decide +kernel
theorem d_B_stepsOf_34 : decode b_B_stepsOf 34 = .ok (.iload_n 3, 1) := by decide +kernel
theorem d_B_stepsOf_35 : decode b_B_stepsOf 35 = .ok (.ldc 53, 2) := by decide +kernel
theorem d_B_stepsOf_37 : decode b_B_stepsOf 37 = .ok (.invokestatic 54, 3) := by decide +kernel
theorem d_B_stepsOf_40 : decode b_B_stepsOf 40 = .ok (.iastore, 1) := by decide +kernel
theorem d_B_stepsOf_41 : decode b_B_stepsOf 41 = .ok (.iinc 2 1, 3) := by decide +kernel
theorem d_B_stepsOf_44 : decode b_B_stepsOf 44 = .ok (.goto (-42), 3) := by decide +kernel
theorem d_B_stepsOf_47 : decode b_B_stepsOf 47 = .ok (.aload_n 0, 1) := by decide +kernel
theorem d_B_stepsOf_48 : decode b_B_stepsOf 48 = .ok (.getfield 28, 3) := by decide +kernel
theorem d_B_stepsOf_51 : decode b_B_stepsOf 51 = .ok (.iload_n 1, 1) := by decide +kernel
theorem d_B_stepsOf_52 : decode b_B_stepsOf 52 = .ok (.iaload, 1) := by decide +kernel
theorem d_B_stepsOf_53 : decode b_B_stepsOf 53 = .ok (.ireturn, 1) := by decide +kernel
theorem d_B_add_0 : decode b_B_add 0 = .ok (.aload_n 0, 1) := by decide +kernel
theorem d_B_add_1 : decode b_B_add 1 = .ok (.getfield 9, 3) := by decide +kernel
theorem d_B_add_4 : decode b_B_add 4 = .ok (.aload_n 0, 1) := by decide +kernel
theorem d_B_add_5 : decode b_B_add 5 = .ok (.getfield 31, 3) := by decide +kernel
theorem d_B_add_8 : decode b_B_add 8 = .ok (.lload 4, 2) := by decide +kernel
theorem d_B_add_10 : decode b_B_add 10 = .ok (.lastore, 1) := by decide +kernel
theorem d_B_add_11 : decode b_B_add 11 = .ok (.aload_n 0, 1) := by decide +kernel
theorem d_B_add_12 : decode b_B_add 12 = .ok (.getfield 15, 3) := by decide +kernel
theorem d_B_add_15 : decode b_B_add 15 = .ok (.aload_n 0, 1) := by decide +kernel
theorem d_B_add_16 : decode b_B_add 16 = .ok (.getfield 31, 3) := by decide +kernel
theorem d_B_add_19 : decode b_B_add 19 = .ok (.iload 6, 2) := by decide +kernel
theorem d_B_add_21 : decode b_B_add 21 = .ok (.iastore, 1) := by decide +kernel
theorem d_B_add_22 : decode b_B_add 22 = .ok (.aload_n 0, 1) := by decide +kernel
theorem d_B_add_23 : decode b_B_add 23 = .ok (.getfield 19, 3) := by decide +kernel
theorem d_B_add_26 : decode b_B_add 26 = .ok (.aload_n 0, 1) := by decide +kernel
theorem d_B_add_27 : decode b_B_add 27 = .ok (.getfield 31, 3) := by decide +kernel
theorem d_B_add_30 : decode b_B_add 30 = .ok (.iload_n 1, 1) := by decide +kernel
theorem d_B_add_31 : decode b_B_add 31 = .ok (.iastore, 1) := by decide +kernel
theorem d_B_add_32 : decode b_B_add 32 = .ok (.aload_n 0, 1) := by decide +kernel
theorem d_B_add_33 : decode b_B_add 33 = .ok (.getfield 22, 3) := by decide +kernel
theorem d_B_add_36 : decode b_B_add 36 = .ok (.aload_n 0, 1) := by decide +kernel
theorem d_B_add_37 : decode b_B_add 37 = .ok (.getfield 31, 3) := by decide +kernel
theorem d_B_add_40 : decode b_B_add 40 = .ok (.iload_n 2, 1) := by decide +kernel
theorem d_B_add_41 : decode b_B_add 41 = .ok (.iastore, 1) := by decide +kernel
theorem d_B_add_42 : decode b_B_add 42 = .ok (.aload_n 0, 1) := by decide +kernel
theorem d_B_add_43 : decode b_B_add 43 = .ok (.getfield 25, 3) := by decide +kernel
theorem d_B_add_46 : decode b_B_add 46 = .ok (.aload_n 0, 1) := by decide +kernel
theorem d_B_add_47 : decode b_B_add 47 = .ok (.getfield 31, 3) := by decide +kernel
theorem d_B_add_50 : decode b_B_add 50 = .ok (.iload_n 3, 1) := by decide +kernel
theorem d_B_add_51 : decode b_B_add 51 = .ok (.iastore, 1) := by decide +kernel
theorem d_B_add_52 : decode b_B_add 52 = .ok (.aload_n 0, 1) := by decide +kernel
theorem d_B_add_53 : decode b_B_add 53 = .ok (.dup, 1) := by decide +kernel
theorem d_B_add_54 : decode b_B_add 54 = .ok (.getfield 31, 3) := by decide +kernel
theorem d_B_add_57 : decode b_B_add 57 = .ok (.iconst 1, 1) := by decide +kernel
theorem d_B_add_58 : decode b_B_add 58 = .ok (.iadd, 1) := by decide +kernel
theorem d_B_add_59 : decode b_B_add 59 = .ok (.putfield 31, 3) := by decide +kernel
theorem d_B_add_62 : decode b_B_add 62 = .ok (.aload_n 0, 1) := by decide +kernel
theorem d_B_add_63 : decode b_B_add 63 = .ok (.getfield 31, 3) := by decide +kernel
theorem d_B_add_66 : decode b_B_add 66 = .ok (.iconst 1, 1) := by decide +kernel
theorem d_B_add_67 : decode b_B_add 67 = .ok (.isub, 1) := by decide +kernel
theorem d_B_add_68 : decode b_B_add 68 = .ok (.ireturn, 1) := by decide +kernel
theorem d_B_firstPremise_0 : decode b_B_firstPremise 0 = .ok (.getstatic 60, 3) := by decide +kernel
theorem d_B_firstPremise_3 : decode b_B_firstPremise 3 = .ok (.aload_n 0, 1) := by decide +kernel
theorem d_B_firstPremise_4 : decode b_B_firstPremise 4 = .ok (.getfield 19, 3) := by decide +kernel
theorem d_B_firstPremise_7 : decode b_B_firstPremise 7 = .ok (.iload_n 1, 1) := by decide +kernel
theorem d_B_firstPremise_8 : decode b_B_firstPremise 8 = .ok (.iaload, 1) := by decide +kernel
theorem d_B_firstPremise_9 : decode b_B_firstPremise 9 = .ok (.iaload, 1) := by decide +kernel
theorem d_B_firstPremise_10 : decode b_B_firstPremise 10 = .ok (.iconst 2, 1) := by decide +kernel
theorem d_B_firstPremise_11 : decode b_B_firstPremise 11 = .ok (.if_icmp .ne 12, 3) := by decide +kernel
theorem d_B_firstPremise_14 : decode b_B_firstPremise 14 = .ok (.aload_n 0, 1) := by decide +kernel
theorem d_B_firstPremise_15 : decode b_B_firstPremise 15 = .ok (.getfield 22, 3) := by decide +kernel
theorem d_B_firstPremise_18 : decode b_B_firstPremise 18 = .ok (.iload_n 1, 1) := by decide +kernel
theorem d_B_firstPremise_19 : decode b_B_firstPremise 19 = .ok (.iaload, 1) := by decide +kernel
theorem d_B_firstPremise_20 : decode b_B_firstPremise 20 = .ok (.goto 4, 3) := by decide +kernel
theorem d_B_firstPremise_23 : decode b_B_firstPremise 23 = .ok (.iconst (-1), 1) := by decide +kernel
theorem d_B_firstPremise_24 : decode b_B_firstPremise 24 = .ok (.ireturn, 1) := by decide +kernel
theorem d_B_secondPremise_0 : decode b_B_secondPremise 0 = .ok (.getstatic 63, 3) := by decide +kernel
theorem d_B_secondPremise_3 : decode b_B_secondPremise 3 = .ok (.aload_n 0, 1) := by decide +kernel
theorem d_B_secondPremise_4 : decode b_B_secondPremise 4 = .ok (.getfield 19, 3) := by decide +kernel
theorem d_B_secondPremise_7 : decode b_B_secondPremise 7 = .ok (.iload_n 1, 1) := by decide +kernel
theorem d_B_secondPremise_8 : decode b_B_secondPremise 8 = .ok (.iaload, 1) := by decide +kernel
theorem d_B_secondPremise_9 : decode b_B_secondPremise 9 = .ok (.iaload, 1) := by decide +kernel
theorem d_B_secondPremise_10 : decode b_B_secondPremise 10 = .ok (.iconst 2, 1) := by decide +kernel
theorem d_B_secondPremise_11 : decode b_B_secondPremise 11 = .ok (.if_icmp .ne 12, 3) := by decide +kernel
theorem d_B_secondPremise_14 : decode b_B_secondPremise 14 = .ok (.aload_n 0, 1) := by decide +kernel
theorem d_B_secondPremise_15 : decode b_B_secondPremise 15 = .ok (.getfield 25, 3) := by decide +kernel
theorem d_B_secondPremise_18 : decode b_B_secondPremise 18 = .ok (.iload_n 1, 1) := by decide +kernel
theorem d_B_secondPremise_19 : decode b_B_secondPremise 19 = .ok (.iaload, 1) := by decide +kernel
theorem d_B_secondPremise_20 : decode b_B_secondPremise 20 = .ok (.goto 4, 3) := by decide +kernel
theorem d_B_secondPremise_23 : decode b_B_secondPremise 23 = .ok (.iconst (-1), 1) := by decide +kernel
theorem d_B_secondPremise_24 : decode b_B_secondPremise 24 = .ok (.ireturn, 1) := by decide +kernel
theorem d_B_stepsBefore_0 : decode b_B_stepsBefore 0 = .ok (.iload_n 1, 1) := by decide +kernel
theorem d_B_stepsBefore_1 : decode b_B_stepsBefore 1 = .ok (.iconst (-1), 1) := by decide +kernel
theorem d_B_stepsBefore_2 : decode b_B_stepsBefore 2 = .ok (.if_icmp .ne 7, 3) := by decide +kernel
theorem d_B_stepsBefore_5 : decode b_B_stepsBefore 5 = .ok (.iconst 0, 1) := by decide +kernel
theorem d_B_stepsBefore_6 : decode b_B_stepsBefore 6 = .ok (.goto 9, 3) := by decide +kernel
theorem d_B_stepsBefore_9 : decode b_B_stepsBefore 9 = .ok (.aload_n 0, 1) := by decide +kernel
theorem d_B_stepsBefore_10 : decode b_B_stepsBefore 10 = .ok (.getfield 28, 3) := by decide +kernel
theorem d_B_stepsBefore_13 : decode b_B_stepsBefore 13 = .ok (.iload_n 1, 1) := by decide +kernel
theorem d_B_stepsBefore_14 : decode b_B_stepsBefore 14 = .ok (.iaload, 1) := by decide +kernel
theorem d_B_stepsBefore_15 : decode b_B_stepsBefore 15 = .ok (.ireturn, 1) := by decide +kernel
theorem d_B_setOf_0 : decode b_B_setOf 0 = .ok (.iload_n 0, 1) := by decide +kernel
theorem d_B_setOf_1 : decode b_B_setOf 1 = .ok (.iconst (-1), 1) := by decide +kernel
theorem d_B_setOf_2 : decode b_B_setOf 2 = .ok (.if_icmp .ne 7, 3) := by decide +kernel
theorem d_B_setOf_5 : decode b_B_setOf 5 = .ok (.lconst 0, 1) := by decide +kernel
theorem d_B_setOf_6 : decode b_B_setOf 6 = .ok (.goto 6, 3) := by decide +kernel
theorem d_B_setOf_9 : decode b_B_setOf 9 = .ok (.lconst 1, 1) := by decide +kernel
theorem d_B_setOf_10 : decode b_B_setOf 10 = .ok (.iload_n 0, 1) := by decide +kernel
theorem d_B_setOf_11 : decode b_B_setOf 11 = .ok (.lshl, 1) := by decide +kernel
theorem d_B_setOf_12 : decode b_B_setOf 12 = .ok (.lreturn, 1) := by decide +kernel
theorem d_D_init_0 : decode b_D_init 0 = .ok (.aload_n 0, 1) := by decide +kernel
theorem d_D_init_1 : decode b_D_init 1 = .ok (.invokespecial 3, 3) := by decide +kernel
theorem d_D_init_4 : decode b_D_init 4 = .ok (.aload_n 0, 1) := by decide +kernel
theorem d_D_init_5 : decode b_D_init 5 = .ok (.bipush 30, 2) := by decide +kernel
theorem d_D_init_7 : decode b_D_init 7 = .ok (.newarray .int, 2) := by decide +kernel
theorem d_D_init_9 : decode b_D_init 9 = .ok (.putfield 9, 3) := by decide +kernel
theorem d_D_init_12 : decode b_D_init 12 = .ok (.aload_n 0, 1) := by decide +kernel
theorem d_D_init_13 : decode b_D_init 13 = .ok (.bipush 30, 2) := by decide +kernel
theorem d_D_init_15 : decode b_D_init 15 = .ok (.newarray .int, 2) := by decide +kernel
theorem d_D_init_17 : decode b_D_init 17 = .ok (.putfield 15, 3) := by decide +kernel
theorem d_D_init_20 : decode b_D_init 20 = .ok (.aload_n 0, 1) := by decide +kernel
theorem d_D_init_21 : decode b_D_init 21 = .ok (.aload_n 1, 1) := by decide +kernel
theorem d_D_init_22 : decode b_D_init 22 = .ok (.putfield 18, 3) := by decide +kernel
theorem d_D_init_25 : decode b_D_init 25 = .ok (.return_, 1) := by decide +kernel
theorem d_D_clear_0 : decode b_D_clear 0 = .ok (.aload_n 0, 1) := by decide +kernel
theorem d_D_clear_1 : decode b_D_clear 1 = .ok (.iconst 0, 1) := by decide +kernel
theorem d_D_clear_2 : decode b_D_clear 2 = .ok (.putfield 22, 3) := by decide +kernel
theorem d_D_clear_5 : decode b_D_clear 5 = .ok (.return_, 1) := by decide +kernel
theorem d_D_length_0 : decode b_D_length 0 = .ok (.aload_n 0, 1) := by decide +kernel
theorem d_D_length_1 : decode b_D_length 1 = .ok (.getfield 22, 3) := by decide +kernel
theorem d_D_length_4 : decode b_D_length 4 = .ok (.ireturn, 1) := by decide +kernel
theorem d_D_isTooLarge_0 : decode b_D_isTooLarge 0 = .ok (.aload_n 0, 1) := by decide +kernel
theorem d_D_isTooLarge_1 : decode b_D_isTooLarge 1 = .ok (.getfield 22, 3) := by decide +kernel
theorem d_D_isTooLarge_4 : decode b_D_isTooLarge 4 = .ok (.bipush 30, 2) := by decide +kernel
theorem d_D_isTooLarge_6 : decode b_D_isTooLarge 6 = .ok (.if_icmp .le 7, 3) := by decide +kernel
theorem d_D_isTooLarge_9 : decode b_D_isTooLarge 9 = .ok (.iconst 1, 1) := by decide +kernel
theorem d_D_isTooLarge_10 : decode b_D_isTooLarge 10 = .ok (.goto 4, 3) := by decide +kernel
theorem d_D_isTooLarge_13 : decode b_D_isTooLarge 13 = .ok (.iconst 0, 1) := by decide +kernel
theorem d_D_isTooLarge_14 : decode b_D_isTooLarge 14 = .ok (.ireturn, 1) := by decide +kernel
theorem d_D_spoil_0 : decode b_D_spoil 0 = .ok (.aload_n 0, 1) := by decide +kernel
theorem d_D_spoil_1 : decode b_D_spoil 1 = .ok (.bipush 31, 2) := by decide +kernel
theorem d_D_spoil_3 : decode b_D_spoil 3 = .ok (.putfield 22, 3) := by decide +kernel
theorem d_D_spoil_6 : decode b_D_spoil 6 = .ok (.return_, 1) := by decide +kernel
theorem d_D_add_0 : decode b_D_add 0 = .ok (.aload_n 0, 1) := by decide +kernel
theorem d_D_add_1 : decode b_D_add 1 = .ok (.getfield 22, 3) := by decide +kernel
theorem d_D_add_4 : decode b_D_add 4 = .ok (.bipush 30, 2) := by decide +kernel
theorem d_D_add_6 : decode b_D_add 6 = .ok (.if_icmp .ge 13, 3) := by decide +kernel
theorem d_D_add_9 : decode b_D_add 9 = .ok (.aload_n 0, 1) := by decide +kernel
theorem d_D_add_10 : decode b_D_add 10 = .ok (.getfield 9, 3) := by decide +kernel
theorem d_D_add_13 : decode b_D_add 13 = .ok (.aload_n 0, 1) := by decide +kernel
theorem d_D_add_14 : decode b_D_add 14 = .ok (.getfield 22, 3) := by decide +kernel
theorem d_D_add_17 : decode b_D_add 17 = .ok (.iload_n 1, 1) := by decide +kernel
theorem d_D_add_18 : decode b_D_add 18 = .ok (.iastore, 1) := by decide +kernel
theorem d_D_add_19 : decode b_D_add 19 = .ok (.aload_n 0, 1) := by decide +kernel
theorem d_D_add_20 : decode b_D_add 20 = .ok (.dup, 1) := by decide +kernel
theorem d_D_add_21 : decode b_D_add 21 = .ok (.getfield 22, 3) := by decide +kernel
theorem d_D_add_24 : decode b_D_add 24 = .ok (.iconst 1, 1) := by decide +kernel
theorem d_D_add_25 : decode b_D_add 25 = .ok (.iadd, 1) := by decide +kernel
theorem d_D_add_26 : decode b_D_add 26 = .ok (.putfield 22, 3) := by decide +kernel
theorem d_D_add_29 : decode b_D_add 29 = .ok (.return_, 1) := by decide +kernel
theorem d_D_addPart_0 : decode b_D_addPart 0 = .ok (.aload_n 0, 1) := by decide +kernel
theorem d_D_addPart_1 : decode b_D_addPart 1 = .ok (.getfield 18, 3) := by decide +kernel
theorem d_D_addPart_4 : decode b_D_addPart 4 = .ok (.iload_n 1, 1) := by decide +kernel
theorem d_D_addPart_5 : decode b_D_addPart 5 = .ok (.invokevirtual 26, 3) := by decide +kernel
theorem d_D_addPart_8 : decode b_D_addPart 8 = .ok (.istore_n 2, 1) := by decide +kernel
theorem d_D_addPart_9 : decode b_D_addPart 9 = .ok (.iload_n 1, 1) := by decide +kernel
theorem d_D_addPart_10 : decode b_D_addPart 10 = .ok (.istore_n 3, 1) := by decide +kernel
theorem d_D_addPart_11 : decode b_D_addPart 11 = .ok (.iload_n 3, 1) := by decide +kernel
theorem d_D_addPart_12 : decode b_D_addPart 12 = .ok (.iload_n 2, 1) := by decide +kernel
theorem d_D_addPart_13 : decode b_D_addPart 13 = .ok (.if_icmp .ge 21, 3) := by decide +kernel
theorem d_D_addPart_16 : decode b_D_addPart 16 = .ok (.aload_n 0, 1) := by decide +kernel
theorem d_D_addPart_17 : decode b_D_addPart 17 = .ok (.aload_n 0, 1) := by decide +kernel
theorem d_D_addPart_18 : decode b_D_addPart 18 = .ok (.getfield 18, 3) := by decide +kernel
theorem d_D_addPart_21 : decode b_D_addPart 21 = .ok (.iload_n 3, 1) := by decide +kernel
theorem d_D_addPart_22 : decode b_D_addPart 22 = .ok (.invokevirtual 32, 3) := by decide +kernel
theorem d_D_addPart_25 : decode b_D_addPart 25 = .ok (.invokevirtual 35, 3) := by decide +kernel
theorem d_D_addPart_28 : decode b_D_addPart 28 = .ok (.iinc 3 1, 3) := by decide +kernel
theorem d_D_addPart_31 : decode b_D_addPart 31 = .ok (.goto (-20), 3) := by decide +kernel
theorem d_D_addPart_34 : decode b_D_addPart 34 = .ok (.return_, 1) := by decide +kernel
theorem d_D_addBinder_0 : decode b_D_addBinder 0 = .ok (.aload_n 0, 1) := by decide +kernel
theorem d_D_addBinder_1 : decode b_D_addBinder 1 = .ok (.iload_n 1, 1) := by decide +kernel
theorem d_D_addBinder_2 : decode b_D_addBinder 2 = .ok (.iload_n 3, 1) := by decide +kernel
theorem d_D_addBinder_3 : decode b_D_addBinder 3 = .ok (.invokestatic 39, 3) := by decide +kernel
theorem d_D_addBinder_6 : decode b_D_addBinder 6 = .ok (.iload_n 2, 1) := by decide +kernel
theorem d_D_addBinder_7 : decode b_D_addBinder 7 = .ok (.invokestatic 44, 3) := by decide +kernel
theorem d_D_addBinder_10 : decode b_D_addBinder 10 = .ok (.invokevirtual 35, 3) := by decide +kernel
theorem d_D_addBinder_13 : decode b_D_addBinder 13 = .ok (.aload_n 0, 1) := by decide +kernel
theorem d_D_addBinder_14 : decode b_D_addBinder 14 = .ok (.getfield 18, 3) := by decide +kernel
theorem d_D_addBinder_17 : decode b_D_addBinder 17 = .ok (.iload 4, 2) := by decide +kernel
theorem d_D_addBinder_19 : decode b_D_addBinder 19 = .ok (.invokevirtual 26, 3) := by decide +kernel
theorem d_D_addBinder_22 : decode b_D_addBinder 22 = .ok (.istore 5, 2) := by decide +kernel
theorem d_D_addBinder_24 : decode b_D_addBinder 24 = .ok (.aload_n 0, 1) := by decide +kernel
theorem d_D_addBinder_25 : decode b_D_addBinder 25 = .ok (.invokevirtual 48, 3) := by decide +kernel
theorem d_D_addBinder_28 : decode b_D_addBinder 28 = .ok (.iload 4, 2) := by decide +kernel
theorem d_D_addBinder_30 : decode b_D_addBinder 30 = .ok (.istore 6, 2) := by decide +kernel
theorem d_D_addBinder_32 : decode b_D_addBinder 32 = .ok (.iload 6, 2) := by decide +kernel
theorem d_D_addBinder_34 : decode b_D_addBinder 34 = .ok (.iload 5, 2) := by decide +kernel
theorem d_D_addBinder_36 : decode b_D_addBinder 36 = .ok (.if_icmp .ge 53, 3) := by decide +kernel
theorem d_D_addBinder_39 : decode b_D_addBinder 39 = .ok (.aload_n 0, 1) := by decide +kernel
theorem d_D_addBinder_40 : decode b_D_addBinder 40 = .ok (.getfield 18, 3) := by decide +kernel
theorem d_D_addBinder_43 : decode b_D_addBinder 43 = .ok (.iload 6, 2) := by decide +kernel
theorem d_D_addBinder_45 : decode b_D_addBinder 45 = .ok (.invokevirtual 32, 3) := by decide +kernel
theorem d_D_addBinder_48 : decode b_D_addBinder 48 = .ok (.istore 7, 2) := by decide +kernel
theorem d_D_addBinder_50 : decode b_D_addBinder 50 = .ok (.aload_n 0, 1) := by decide +kernel
theorem d_D_addBinder_51 : decode b_D_addBinder 51 = .ok (.iload 7, 2) := by decide +kernel
theorem d_D_addBinder_53 : decode b_D_addBinder 53 = .ok (.invokevirtual 51, 3) := by decide +kernel
theorem d_D_addBinder_56 : decode b_D_addBinder 56 = .ok (.istore 8, 2) := by decide +kernel
theorem d_D_addBinder_58 : decode b_D_addBinder 58 = .ok (.aload_n 0, 1) := by decide +kernel
theorem d_D_addBinder_59 : decode b_D_addBinder 59 = .ok (.iload 7, 2) := by decide +kernel
theorem d_D_addBinder_61 : decode b_D_addBinder 61 = .ok (.iload_n 3, 1) := by decide +kernel
theorem d_D_addBinder_62 : decode b_D_addBinder 62 = .ok (.if_icmp .ne 16, 3) := by decide +kernel
theorem d_D_addBinder_65 : decode b_D_addBinder 65 = .ok (.iconst 2, 1) := by decide +kernel
theorem d_D_addBinder_66 : decode b_D_addBinder 66 = .ok (.iload 8, 2) := by decide +kernel
theorem d_D_addBinder_68 : decode b_D_addBinder 68 = .ok (.iload_n 3, 1) := by decide +kernel
theorem d_D_addBinder_69 : decode b_D_addBinder 69 = .ok (.invokestatic 39, 3) := by decide +kernel
theorem d_D_addBinder_72 : decode b_D_addBinder 72 = .ok (.invokestatic 44, 3) := by decide +kernel
theorem d_D_addBinder_75 : decode b_D_addBinder 75 = .ok (.goto 5, 3) := by decide +kernel
theorem d_D_addBinder_78 : decode b_D_addBinder 78 = .ok (.iload 7, 2) := by decide +kernel
theorem d_D_addBinder_80 : decode b_D_addBinder 80 = .ok (.invokevirtual 35, 3) := by decide +kernel
theorem d_D_addBinder_83 : decode b_D_addBinder 83 = .ok (.iinc 6 1, 3) := by decide +kernel
theorem d_D_addBinder_86 : decode b_D_addBinder 86 = .ok (.goto (-54), 3) := by decide +kernel
theorem d_D_addBinder_89 : decode b_D_addBinder 89 = .ok (.return_, 1) := by decide +kernel
theorem d_D_addFilling_0 : decode b_D_addFilling 0 = .ok (.aload_n 0, 1) := by decide +kernel
theorem d_D_addFilling_1 : decode b_D_addFilling 1 = .ok (.getfield 18, 3) := by decide +kernel
theorem d_D_addFilling_4 : decode b_D_addFilling 4 = .ok (.iload_n 1, 1) := by decide +kernel
theorem d_D_addFilling_5 : decode b_D_addFilling 5 = .ok (.invokevirtual 26, 3) := by decide +kernel
theorem d_D_addFilling_8 : decode b_D_addFilling 8 = .ok (.istore_n 3, 1) := by decide +kernel
theorem d_D_addFilling_9 : decode b_D_addFilling 9 = .ok (.aload_n 0, 1) := by decide +kernel
theorem d_D_addFilling_10 : decode b_D_addFilling 10 = .ok (.invokevirtual 48, 3) := by decide +kernel
theorem d_D_addFilling_13 : decode b_D_addFilling 13 = .ok (.iload_n 1, 1) := by decide +kernel
theorem d_D_addFilling_14 : decode b_D_addFilling 14 = .ok (.istore 4, 2) := by decide +kernel
theorem d_D_addFilling_16 : decode b_D_addFilling 16 = .ok (.iload 4, 2) := by decide +kernel
theorem d_D_addFilling_18 : decode b_D_addFilling 18 = .ok (.iload_n 3, 1) := by decide +kernel
theorem d_D_addFilling_19 : decode b_D_addFilling 19 = .ok (.if_icmp .ge 61, 3) := by decide +kernel
theorem d_D_addFilling_22 : decode b_D_addFilling 22 = .ok (.aload_n 0, 1) := by decide +kernel
theorem d_D_addFilling_23 : decode b_D_addFilling 23 = .ok (.getfield 18, 3) := by decide +kernel
theorem d_D_addFilling_26 : decode b_D_addFilling 26 = .ok (.iload 4, 2) := by decide +kernel
theorem d_D_addFilling_28 : decode b_D_addFilling 28 = .ok (.invokevirtual 32, 3) := by decide +kernel
theorem d_D_addFilling_31 : decode b_D_addFilling 31 = .ok (.istore 5, 2) := by decide +kernel
theorem d_D_addFilling_33 : decode b_D_addFilling 33 = .ok (.aload_n 0, 1) := by decide +kernel
theorem d_D_addFilling_34 : decode b_D_addFilling 34 = .ok (.iload 5, 2) := by decide +kernel
theorem d_D_addFilling_36 : decode b_D_addFilling 36 = .ok (.invokevirtual 51, 3) := by decide +kernel
theorem d_D_addFilling_39 : decode b_D_addFilling 39 = .ok (.istore 6, 2) := by decide +kernel
theorem d_D_addFilling_41 : decode b_D_addFilling 41 = .ok (.iload 5, 2) := by decide +kernel
theorem d_D_addFilling_43 : decode b_D_addFilling 43 = .ok (.invokestatic 54, 3) := by decide +kernel
theorem d_D_addFilling_46 : decode b_D_addFilling 46 = .ok (.iconst 2, 1) := by decide +kernel
theorem d_D_addFilling_47 : decode b_D_addFilling 47 = .ok (.if_icmp .ne 21, 3) := by decide +kernel
theorem d_D_addFilling_50 : decode b_D_addFilling 50 = .ok (.iload 5, 2) := by decide +kernel
theorem d_D_addFilling_52 : decode b_D_addFilling 52 = .ok (.invokestatic 57, 3) := by decide +kernel
theorem d_D_addFilling_55 : decode b_D_addFilling 55 = .ok (.iload 6, 2) := by decide +kernel
theorem d_D_addFilling_57 : decode b_D_addFilling 57 = .ok (.if_icmp .ne 11, 3) := by decide +kernel
theorem d_D_addFilling_60 : decode b_D_addFilling 60 = .ok (.aload_n 0, 1) := by decide +kernel
theorem d_D_addFilling_61 : decode b_D_addFilling 61 = .ok (.iload_n 2, 1) := by decide +kernel
theorem d_D_addFilling_62 : decode b_D_addFilling 62 = .ok (.invokevirtual 60, 3) := by decide +kernel
theorem d_D_addFilling_65 : decode b_D_addFilling 65 = .ok (.goto 9, 3) := by decide +kernel
theorem d_D_addFilling_68 : decode b_D_addFilling 68 = .ok (.aload_n 0, 1) := by decide +kernel
theorem d_D_addFilling_69 : decode b_D_addFilling 69 = .ok (.iload 5, 2) := by decide +kernel
theorem d_D_addFilling_71 : decode b_D_addFilling 71 = .ok (.invokevirtual 35, 3) := by decide +kernel
theorem d_D_addFilling_74 : decode b_D_addFilling 74 = .ok (.iinc 4 1, 3) := by decide +kernel
theorem d_D_addFilling_77 : decode b_D_addFilling 77 = .ok (.goto (-61), 3) := by decide +kernel
theorem d_D_addFilling_80 : decode b_D_addFilling 80 = .ok (.return_, 1) := by decide +kernel
theorem d_D_addReplacing_0 : decode b_D_addReplacing 0 = .ok (.aload_n 0, 1) := by decide +kernel
theorem d_D_addReplacing_1 : decode b_D_addReplacing 1 = .ok (.getfield 18, 3) := by decide +kernel
theorem d_D_addReplacing_4 : decode b_D_addReplacing 4 = .ok (.iload_n 1, 1) := by decide +kernel
theorem d_D_addReplacing_5 : decode b_D_addReplacing 5 = .ok (.invokevirtual 26, 3) := by decide +kernel
theorem d_D_addReplacing_8 : decode b_D_addReplacing 8 = .ok (.istore 4, 2) := by decide +kernel
theorem d_D_addReplacing_10 : decode b_D_addReplacing 10 = .ok (.iload_n 1, 1) := by decide +kernel
theorem d_D_addReplacing_11 : decode b_D_addReplacing 11 = .ok (.istore 5, 2) := by decide +kernel
theorem d_D_addReplacing_13 : decode b_D_addReplacing 13 = .ok (.iload 5, 2) := by decide +kernel
theorem d_D_addReplacing_15 : decode b_D_addReplacing 15 = .ok (.iload 4, 2) := by decide +kernel
theorem d_D_addReplacing_17 : decode b_D_addReplacing 17 = .ok (.if_icmp .ge 43, 3) := by decide +kernel
theorem d_D_addReplacing_20 : decode b_D_addReplacing 20 = .ok (.aload_n 0, 1) := by decide +kernel
theorem d_D_addReplacing_21 : decode b_D_addReplacing 21 = .ok (.getfield 18, 3) := by decide +kernel
theorem d_D_addReplacing_24 : decode b_D_addReplacing 24 = .ok (.iload 5, 2) := by decide +kernel
theorem d_D_addReplacing_26 : decode b_D_addReplacing 26 = .ok (.invokevirtual 32, 3) := by decide +kernel
theorem d_D_addReplacing_29 : decode b_D_addReplacing 29 = .ok (.iload_n 2, 1) := by decide +kernel
theorem d_D_addReplacing_30 : decode b_D_addReplacing 30 = .ok (.if_icmp .ne 11, 3) := by decide +kernel
theorem d_D_addReplacing_33 : decode b_D_addReplacing 33 = .ok (.aload_n 0, 1) := by decide +kernel
theorem d_D_addReplacing_34 : decode b_D_addReplacing 34 = .ok (.iload_n 3, 1) := by decide +kernel
theorem d_D_addReplacing_35 : decode b_D_addReplacing 35 = .ok (.invokevirtual 60, 3) := by decide +kernel
theorem d_D_addReplacing_38 : decode b_D_addReplacing 38 = .ok (.goto 16, 3) := by decide +kernel
theorem d_D_addReplacing_41 : decode b_D_addReplacing 41 = .ok (.aload_n 0, 1) := by decide +kernel
theorem d_D_addReplacing_42 : decode b_D_addReplacing 42 = .ok (.aload_n 0, 1) := by decide +kernel
theorem d_D_addReplacing_43 : decode b_D_addReplacing 43 = .ok (.getfield 18, 3) := by decide +kernel
theorem d_D_addReplacing_46 : decode b_D_addReplacing 46 = .ok (.iload 5, 2) := by decide +kernel
theorem d_D_addReplacing_48 : decode b_D_addReplacing 48 = .ok (.invokevirtual 32, 3) := by decide +kernel
theorem d_D_addReplacing_51 : decode b_D_addReplacing 51 = .ok (.invokevirtual 35, 3) := by decide +kernel
theorem d_D_addReplacing_54 : decode b_D_addReplacing 54 = .ok (.iinc 5 1, 3) := by decide +kernel
theorem d_D_addReplacing_57 : decode b_D_addReplacing 57 = .ok (.goto (-44), 3) := by decide +kernel
theorem d_D_addReplacing_60 : decode b_D_addReplacing 60 = .ok (.return_, 1) := by decide +kernel
theorem d_D_isAt_0 : decode b_D_isAt 0 = .ok (.iconst 0, 1) := by decide +kernel
theorem d_D_isAt_1 : decode b_D_isAt 1 = .ok (.istore_n 2, 1) := by decide +kernel
theorem d_D_isAt_2 : decode b_D_isAt 2 = .ok (.iload_n 2, 1) := by decide +kernel
theorem d_D_isAt_3 : decode b_D_isAt 3 = .ok (.aload_n 0, 1) := by decide +kernel
theorem d_D_isAt_4 : decode b_D_isAt 4 = .ok (.getfield 22, 3) := by decide +kernel
theorem d_D_isAt_7 : decode b_D_isAt 7 = .ok (.if_icmp .ge 30, 3) := by decide +kernel
theorem d_D_isAt_10 : decode b_D_isAt 10 = .ok (.aload_n 0, 1) := by decide +kernel
theorem d_D_isAt_11 : decode b_D_isAt 11 = .ok (.getfield 9, 3) := by decide +kernel
theorem d_D_isAt_14 : decode b_D_isAt 14 = .ok (.iload_n 2, 1) := by decide +kernel
theorem d_D_isAt_15 : decode b_D_isAt 15 = .ok (.iaload, 1) := by decide +kernel
theorem d_D_isAt_16 : decode b_D_isAt 16 = .ok (.aload_n 0, 1) := by decide +kernel
theorem d_D_isAt_17 : decode b_D_isAt 17 = .ok (.getfield 18, 3) := by decide +kernel
theorem d_D_isAt_20 : decode b_D_isAt 20 = .ok (.iload_n 1, 1) := by decide +kernel
theorem d_D_isAt_21 : decode b_D_isAt 21 = .ok (.iload_n 2, 1) := by decide +kernel
theorem d_D_isAt_22 : decode b_D_isAt 22 = .ok (.iadd, 1) := by decide +kernel
theorem d_D_isAt_23 : decode b_D_isAt 23 = .ok (.invokevirtual 32, 3) := by decide +kernel
theorem d_D_isAt_26 : decode b_D_isAt 26 = .ok (.if_icmp .eq 5, 3) := by decide +kernel
theorem d_D_isAt_29 : decode b_D_isAt 29 = .ok (.iconst 0, 1) := by decide +kernel
theorem d_D_isAt_30 : decode b_D_isAt 30 = .ok (.ireturn, 1) := by decide +kernel
theorem d_D_isAt_31 : decode b_D_isAt 31 = .ok (.iinc 2 1, 3) := by decide +kernel
theorem d_D_isAt_34 : decode b_D_isAt 34 = .ok (.goto (-32), 3) := by decide +kernel
theorem d_D_isAt_37 : decode b_D_isAt 37 = .ok (.iconst 1, 1) := by decide +kernel
theorem d_D_isAt_38 : decode b_D_isAt 38 = .ok (.ireturn, 1) := by decide +kernel
theorem d_D_copyTo_0 : decode b_D_copyTo 0 = .ok (.aload_n 0, 1) := by decide +kernel
theorem d_D_copyTo_1 : decode b_D_copyTo 1 = .ok (.getfield 9, 3) := by decide +kernel
theorem d_D_copyTo_4 : decode b_D_copyTo 4 = .ok (.iconst 0, 1) := by decide +kernel
theorem d_D_copyTo_5 : decode b_D_copyTo 5 = .ok (.aload_n 1, 1) := by decide +kernel
theorem d_D_copyTo_6 : decode b_D_copyTo 6 = .ok (.iload_n 2, 1) := by decide +kernel
theorem d_D_copyTo_7 : decode b_D_copyTo 7 = .ok (.aload_n 0, 1) := by decide +kernel
theorem d_D_copyTo_8 : decode b_D_copyTo 8 = .ok (.getfield 22, 3) := by decide +kernel
theorem d_D_copyTo_11 : decode b_D_copyTo 11 = .ok (.invokestatic 63, 3) := by decide +kernel
theorem d_D_copyTo_14 : decode b_D_copyTo 14 = .ok (.return_, 1) := by decide +kernel
theorem d_D_beginWalk_0 : decode b_D_beginWalk 0 = .ok (.aload_n 0, 1) := by decide +kernel
theorem d_D_beginWalk_1 : decode b_D_beginWalk 1 = .ok (.getfield 15, 3) := by decide +kernel
theorem d_D_beginWalk_4 : decode b_D_beginWalk 4 = .ok (.iconst 0, 1) := by decide +kernel
theorem d_D_beginWalk_5 : decode b_D_beginWalk 5 = .ok (.iconst 0, 1) := by decide +kernel
theorem d_D_beginWalk_6 : decode b_D_beginWalk 6 = .ok (.iastore, 1) := by decide +kernel
theorem d_D_beginWalk_7 : decode b_D_beginWalk 7 = .ok (.aload_n 0, 1) := by decide +kernel
theorem d_D_beginWalk_8 : decode b_D_beginWalk 8 = .ok (.iconst 1, 1) := by decide +kernel
theorem d_D_beginWalk_9 : decode b_D_beginWalk 9 = .ok (.putfield 69, 3) := by decide +kernel
theorem d_D_beginWalk_12 : decode b_D_beginWalk 12 = .ok (.return_, 1) := by decide +kernel
theorem d_D_walkOver_0 : decode b_D_walkOver 0 = .ok (.aload_n 0, 1) := by decide +kernel
theorem d_D_walkOver_1 : decode b_D_walkOver 1 = .ok (.getfield 69, 3) := by decide +kernel
theorem d_D_walkOver_4 : decode b_D_walkOver 4 = .ok (.ifCond .le 13, 3) := by decide +kernel
theorem d_D_walkOver_7 : decode b_D_walkOver 7 = .ok (.aload_n 0, 1) := by decide +kernel
theorem d_D_walkOver_8 : decode b_D_walkOver 8 = .ok (.dup, 1) := by decide +kernel
theorem d_D_walkOver_9 : decode b_D_walkOver 9 = .ok (.getfield 69, 3) := by decide +kernel
theorem d_D_walkOver_12 : decode b_D_walkOver 12 = .ok (.iconst 1, 1) := by decide +kernel
theorem d_D_walkOver_13 : decode b_D_walkOver 13 = .ok (.isub, 1) := by decide +kernel
theorem d_D_walkOver_14 : decode b_D_walkOver 14 = .ok (.putfield 69, 3) := by decide +kernel
theorem d_D_walkOver_17 : decode b_D_walkOver 17 = .ok (.aload_n 0, 1) := by decide +kernel
theorem d_D_walkOver_18 : decode b_D_walkOver 18 = .ok (.getfield 15, 3) := by decide +kernel
theorem d_D_walkOver_21 : decode b_D_walkOver 21 = .ok (.aload_n 0, 1) := by decide +kernel
theorem d_D_walkOver_22 : decode b_D_walkOver 22 = .ok (.getfield 69, 3) := by decide +kernel
theorem d_D_walkOver_25 : decode b_D_walkOver 25 = .ok (.iaload, 1) := by decide +kernel
theorem d_D_walkOver_26 : decode b_D_walkOver 26 = .ok (.istore_n 2, 1) := by decide +kernel
theorem d_D_walkOver_27 : decode b_D_walkOver 27 = .ok (.iload_n 1, 1) := by decide +kernel
theorem d_D_walkOver_28 : decode b_D_walkOver 28 = .ok (.invokestatic 72, 3) := by decide +kernel
theorem d_D_walkOver_31 : decode b_D_walkOver 31 = .ok (.ifCond .eq 9, 3) := by decide +kernel
theorem d_D_walkOver_34 : decode b_D_walkOver 34 = .ok (.iload_n 2, 1) := by decide +kernel
theorem d_D_walkOver_35 : decode b_D_walkOver 35 = .ok (.iconst 1, 1) := by decide +kernel
theorem d_D_walkOver_36 : decode b_D_walkOver 36 = .ok (.iadd, 1) := by decide +kernel
theorem d_D_walkOver_37 : decode b_D_walkOver 37 = .ok (.goto 4, 3) := by decide +kernel
theorem d_D_walkOver_40 : decode b_D_walkOver 40 = .ok (.iload_n 2, 1) := by decide +kernel
theorem d_D_walkOver_41 : decode b_D_walkOver 41 = .ok (.istore_n 3, 1) := by decide +kernel
theorem d_D_walkOver_42 : decode b_D_walkOver 42 = .ok (.iconst 0, 1) := by decide +kernel
theorem d_D_walkOver_43 : decode b_D_walkOver 43 = .ok (.istore 4, 2) := by decide +kernel
theorem d_D_walkOver_45 : decode b_D_walkOver 45 = .ok (.iload 4, 2) := by decide +kernel
theorem d_D_walkOver_47 : decode b_D_walkOver 47 = .ok (.iload_n 1, 1) := by decide +kernel
theorem d_D_walkOver_48 : decode b_D_walkOver 48 = .ok (.invokestatic 76, 3) := by decide +kernel
theorem d_D_walkOver_51 : decode b_D_walkOver 51 = .ok (.if_icmp .ge 38, 3) := by decide +kernel
theorem d_D_walkOver_54 : decode b_D_walkOver 54 = .ok (.aload_n 0, 1) := by decide +kernel
theorem d_D_walkOver_55 : decode b_D_walkOver 55 = .ok (.getfield 69, 3) := by decide +kernel
theorem d_D_walkOver_58 : decode b_D_walkOver 58 = .ok (.bipush 30, 2) := by decide +kernel
theorem d_D_walkOver_60 : decode b_D_walkOver 60 = .ok (.if_icmp .ge 29, 3) := by decide +kernel
theorem d_D_walkOver_63 : decode b_D_walkOver 63 = .ok (.aload_n 0, 1) := by decide +kernel
theorem d_D_walkOver_64 : decode b_D_walkOver 64 = .ok (.getfield 15, 3) := by decide +kernel
theorem d_D_walkOver_67 : decode b_D_walkOver 67 = .ok (.aload_n 0, 1) := by decide +kernel
theorem d_D_walkOver_68 : decode b_D_walkOver 68 = .ok (.getfield 69, 3) := by decide +kernel
theorem d_D_walkOver_71 : decode b_D_walkOver 71 = .ok (.iload_n 3, 1) := by decide +kernel
theorem d_D_walkOver_72 : decode b_D_walkOver 72 = .ok (.iastore, 1) := by decide +kernel
theorem d_D_walkOver_73 : decode b_D_walkOver 73 = .ok (.aload_n 0, 1) := by decide +kernel
theorem d_D_walkOver_74 : decode b_D_walkOver 74 = .ok (.dup, 1) := by decide +kernel
theorem d_D_walkOver_75 : decode b_D_walkOver 75 = .ok (.getfield 69, 3) := by decide +kernel
theorem d_D_walkOver_78 : decode b_D_walkOver 78 = .ok (.iconst 1, 1) := by decide +kernel
theorem d_D_walkOver_79 : decode b_D_walkOver 79 = .ok (.iadd, 1) := by decide +kernel
theorem d_D_walkOver_80 : decode b_D_walkOver 80 = .ok (.putfield 69, 3) := by decide +kernel
theorem d_D_walkOver_83 : decode b_D_walkOver 83 = .ok (.iinc 4 1, 3) := by decide +kernel
theorem d_D_walkOver_86 : decode b_D_walkOver 86 = .ok (.goto (-41), 3) := by decide +kernel
theorem d_D_walkOver_89 : decode b_D_walkOver 89 = .ok (.iload_n 2, 1) := by decide +kernel
theorem d_D_walkOver_90 : decode b_D_walkOver 90 = .ok (.ireturn, 1) := by decide +kernel
theorem d_S_init_0 : decode b_S_init 0 = .ok (.aload_n 0, 1) := by decide +kernel
theorem d_S_init_1 : decode b_S_init 1 = .ok (.invokespecial 3, 3) := by decide +kernel
theorem d_S_init_4 : decode b_S_init 4 = .ok (.aload_n 0, 1) := by decide +kernel
theorem d_S_init_5 : decode b_S_init 5 = .ok (.sipush 1800, 3) := by decide +kernel
theorem d_S_init_8 : decode b_S_init 8 = .ok (.newarray .int, 2) := by decide +kernel
theorem d_S_init_10 : decode b_S_init 10 = .ok (.putfield 9, 3) := by decide +kernel
theorem d_S_init_13 : decode b_S_init 13 = .ok (.aload_n 0, 1) := by decide +kernel
theorem d_S_init_14 : decode b_S_init 14 = .ok (.bipush 60, 2) := by decide +kernel
theorem d_S_init_16 : decode b_S_init 16 = .ok (.newarray .int, 2) := by decide +kernel
theorem d_S_init_18 : decode b_S_init 18 = .ok (.putfield 15, 3) := by decide +kernel
theorem d_S_init_21 : decode b_S_init 21 = .ok (.return_, 1) := by decide +kernel
theorem d_S_count_0 : decode b_S_count 0 = .ok (.aload_n 0, 1) := by decide +kernel
theorem d_S_count_1 : decode b_S_count 1 = .ok (.getfield 18, 3) := by decide +kernel
theorem d_S_count_4 : decode b_S_count 4 = .ok (.ireturn, 1) := by decide +kernel
theorem d_S_has_0 : decode b_S_has 0 = .ok (.iload_n 1, 1) := by decide +kernel
theorem d_S_has_1 : decode b_S_has 1 = .ok (.ifCond .lt 15, 3) := by decide +kernel
theorem d_S_has_4 : decode b_S_has 4 = .ok (.iload_n 1, 1) := by decide +kernel
theorem d_S_has_5 : decode b_S_has 5 = .ok (.aload_n 0, 1) := by decide +kernel
theorem d_S_has_6 : decode b_S_has 6 = .ok (.getfield 18, 3) := by decide +kernel
theorem d_S_has_9 : decode b_S_has 9 = .ok (.if_icmp .ge 7, 3) := by decide +kernel
theorem d_S_has_12 : decode b_S_has 12 = .ok (.iconst 1, 1) := by decide +kernel
theorem d_S_has_13 : decode b_S_has 13 = .ok (.goto 4, 3) := by decide +kernel
theorem d_S_has_16 : decode b_S_has 16 = .ok (.iconst 0, 1) := by decide +kernel
theorem d_S_has_17 : decode b_S_has 17 = .ok (.ireturn, 1) := by decide +kernel
theorem d_S_start_0 : decode b_S_start 0 = .ok (.iload_n 1, 1) := by decide +kernel
theorem d_S_start_1 : decode b_S_start 1 = .ok (.bipush 30, 2) := by decide +kernel
theorem d_S_start_3 : decode b_S_start 3 = .ok (.imul, 1) := by decide +kernel
theorem d_S_start_4 : decode b_S_start 4 = .ok (.ireturn, 1) := by decide +kernel
theorem d_S_length_0 : decode b_S_length 0 = .ok (.aload_n 0, 1) := by decide +kernel
theorem d_S_length_1 : decode b_S_length 1 = .ok (.getfield 15, 3) := by decide +kernel
theorem d_S_length_4 : decode b_S_length 4 = .ok (.iload_n 1, 1) := by decide +kernel
theorem d_S_length_5 : decode b_S_length 5 = .ok (.iaload, 1) := by decide +kernel
theorem d_S_length_6 : decode b_S_length 6 = .ok (.ireturn, 1) := by decide +kernel
theorem d_S_token_0 : decode b_S_token 0 = .ok (.iload_n 1, 1) := by decide +kernel
theorem d_S_token_1 : decode b_S_token 1 = .ok (.aload_n 0, 1) := by decide +kernel
theorem d_S_token_2 : decode b_S_token 2 = .ok (.getfield 9, 3) := by decide +kernel
theorem d_S_token_5 : decode b_S_token 5 = .ok (.arraylength, 1) := by decide +kernel
theorem d_S_token_6 : decode b_S_token 6 = .ok (.if_icmp .ge 12, 3) := by decide +kernel
theorem d_S_token_9 : decode b_S_token 9 = .ok (.aload_n 0, 1) := by decide +kernel
theorem d_S_token_10 : decode b_S_token 10 = .ok (.getfield 9, 3) := by decide +kernel
theorem d_S_token_13 : decode b_S_token 13 = .ok (.iload_n 1, 1) := by decide +kernel
theorem d_S_token_14 : decode b_S_token 14 = .ok (.iaload, 1) := by decide +kernel
theorem d_S_token_15 : decode b_S_token 15 = .ok (.goto 4, 3) := by decide +kernel
theorem d_S_token_18 : decode b_S_token 18 = .ok (.iconst 0, 1) := by decide +kernel
theorem d_S_token_19 : decode b_S_token 19 = .ok (.ireturn, 1) := by decide +kernel
theorem d_S_firstPart_0 : decode b_S_firstPart 0 = .ok (.iload_n 1, 1) := by decide +kernel
theorem d_S_firstPart_1 : decode b_S_firstPart 1 = .ok (.iconst 1, 1) := by decide +kernel
theorem d_S_firstPart_2 : decode b_S_firstPart 2 = .ok (.iadd, 1) := by decide +kernel
theorem d_S_firstPart_3 : decode b_S_firstPart 3 = .ok (.ireturn, 1) := by decide +kernel
theorem d_S_secondPart_0 : decode b_S_secondPart 0 = .ok (.aload_n 0, 1) := by decide +kernel
theorem d_S_secondPart_1 : decode b_S_secondPart 1 = .ok (.iload_n 1, 1) := by decide +kernel
theorem d_S_secondPart_2 : decode b_S_secondPart 2 = .ok (.iconst 1, 1) := by decide +kernel
theorem d_S_secondPart_3 : decode b_S_secondPart 3 = .ok (.iadd, 1) := by decide +kernel
theorem d_S_secondPart_4 : decode b_S_secondPart 4 = .ok (.invokevirtual 22, 3) := by decide +kernel
theorem d_S_secondPart_7 : decode b_S_secondPart 7 = .ok (.ireturn, 1) := by decide +kernel
theorem d_S_behind_0 : decode b_S_behind 0 = .ok (.iload_n 1, 1) := by decide +kernel
theorem d_S_behind_1 : decode b_S_behind 1 = .ok (.istore_n 2, 1) := by decide +kernel
theorem d_S_behind_2 : decode b_S_behind 2 = .ok (.iconst 1, 1) := by decide +kernel
theorem d_S_behind_3 : decode b_S_behind 3 = .ok (.istore_n 3, 1) := by decide +kernel
theorem d_S_behind_4 : decode b_S_behind 4 = .ok (.iload_n 3, 1) := by decide +kernel
theorem d_S_behind_5 : decode b_S_behind 5 = .ok (.ifCond .le 32, 3) := by decide +kernel
theorem d_S_behind_8 : decode b_S_behind 8 = .ok (.iload_n 2, 1) := by decide +kernel
theorem d_S_behind_9 : decode b_S_behind 9 = .ok (.aload_n 0, 1) := by decide +kernel
theorem d_S_behind_10 : decode b_S_behind 10 = .ok (.getfield 9, 3) := by decide +kernel
theorem d_S_behind_13 : decode b_S_behind 13 = .ok (.arraylength, 1) := by decide +kernel
theorem d_S_behind_14 : decode b_S_behind 14 = .ok (.if_icmp .ge 23, 3) := by decide +kernel
theorem d_S_behind_17 : decode b_S_behind 17 = .ok (.iload_n 3, 1) := by decide +kernel
theorem d_S_behind_18 : decode b_S_behind 18 = .ok (.aload_n 0, 1) := by decide +kernel
theorem d_S_behind_19 : decode b_S_behind 19 = .ok (.getfield 9, 3) := by decide +kernel
theorem d_S_behind_22 : decode b_S_behind 22 = .ok (.iload_n 2, 1) := by decide +kernel
theorem d_S_behind_23 : decode b_S_behind 23 = .ok (.iaload, 1) := by decide +kernel
theorem d_S_behind_24 : decode b_S_behind 24 = .ok (.invokestatic 26, 3) := by decide +kernel
theorem d_S_behind_27 : decode b_S_behind 27 = .ok (.iconst 1, 1) := by decide +kernel
theorem d_S_behind_28 : decode b_S_behind 28 = .ok (.isub, 1) := by decide +kernel
theorem d_S_behind_29 : decode b_S_behind 29 = .ok (.iadd, 1) := by decide +kernel
theorem d_S_behind_30 : decode b_S_behind 30 = .ok (.istore_n 3, 1) := by decide +kernel
theorem d_S_behind_31 : decode b_S_behind 31 = .ok (.iinc 2 1, 3) := by decide +kernel
theorem d_S_behind_34 : decode b_S_behind 34 = .ok (.goto (-30), 3) := by decide +kernel
theorem d_S_behind_37 : decode b_S_behind 37 = .ok (.iload_n 2, 1) := by decide +kernel
theorem d_S_behind_38 : decode b_S_behind 38 = .ok (.ireturn, 1) := by decide +kernel
theorem d_S_same_0 : decode b_S_same 0 = .ok (.aload_n 0, 1) := by decide +kernel
theorem d_S_same_1 : decode b_S_same 1 = .ok (.iload_n 1, 1) := by decide +kernel
theorem d_S_same_2 : decode b_S_same 2 = .ok (.invokevirtual 22, 3) := by decide +kernel
theorem d_S_same_5 : decode b_S_same 5 = .ok (.iload_n 1, 1) := by decide +kernel
theorem d_S_same_6 : decode b_S_same 6 = .ok (.isub, 1) := by decide +kernel
theorem d_S_same_7 : decode b_S_same 7 = .ok (.istore_n 3, 1) := by decide +kernel
theorem d_S_same_8 : decode b_S_same 8 = .ok (.iconst 0, 1) := by decide +kernel
theorem d_S_same_9 : decode b_S_same 9 = .ok (.istore 4, 2) := by decide +kernel
theorem d_S_same_11 : decode b_S_same 11 = .ok (.iload 4, 2) := by decide +kernel
theorem d_S_same_13 : decode b_S_same 13 = .ok (.iload_n 3, 1) := by decide +kernel
theorem d_S_same_14 : decode b_S_same 14 = .ok (.if_icmp .ge 30, 3) := by decide +kernel
theorem d_S_same_17 : decode b_S_same 17 = .ok (.aload_n 0, 1) := by decide +kernel
theorem d_S_same_18 : decode b_S_same 18 = .ok (.iload_n 1, 1) := by decide +kernel
theorem d_S_same_19 : decode b_S_same 19 = .ok (.iload 4, 2) := by decide +kernel
theorem d_S_same_21 : decode b_S_same 21 = .ok (.iadd, 1) := by decide +kernel
theorem d_S_same_22 : decode b_S_same 22 = .ok (.invokevirtual 31, 3) := by decide +kernel
theorem d_S_same_25 : decode b_S_same 25 = .ok (.aload_n 0, 1) := by decide +kernel
theorem d_S_same_26 : decode b_S_same 26 = .ok (.iload_n 2, 1) := by decide +kernel
theorem d_S_same_27 : decode b_S_same 27 = .ok (.iload 4, 2) := by decide +kernel
theorem d_S_same_29 : decode b_S_same 29 = .ok (.iadd, 1) := by decide +kernel
theorem d_S_same_30 : decode b_S_same 30 = .ok (.invokevirtual 31, 3) := by decide +kernel
theorem d_S_same_33 : decode b_S_same 33 = .ok (.if_icmp .eq 5, 3) := by decide +kernel
theorem d_S_same_36 : decode b_S_same 36 = .ok (.iconst 0, 1) := by decide +kernel
theorem d_S_same_37 : decode b_S_same 37 = .ok (.ireturn, 1) := by decide +kernel
theorem d_S_same_38 : decode b_S_same 38 = .ok (.iinc 4 1, 3) := by decide +kernel
theorem d_S_same_41 : decode b_S_same 41 = .ok (.goto (-30), 3) := by decide +kernel
theorem d_S_same_44 : decode b_S_same 44 = .ok (.iconst 1, 1) := by decide +kernel
theorem d_S_same_45 : decode b_S_same 45 = .ok (.ireturn, 1) := by decide +kernel
theorem d_S_holds_0 : decode b_S_holds 0 = .ok (.aload_n 0, 1) := by decide +kernel
theorem d_S_holds_1 : decode b_S_holds 1 = .ok (.iload_n 1, 1) := by decide +kernel
theorem d_S_holds_2 : decode b_S_holds 2 = .ok (.invokevirtual 34, 3) := by decide +kernel
theorem d_S_holds_5 : decode b_S_holds 5 = .ok (.aload_n 0, 1) := by decide +kernel
theorem d_S_holds_6 : decode b_S_holds 6 = .ok (.getfield 15, 3) := by decide +kernel
theorem d_S_holds_9 : decode b_S_holds 9 = .ok (.iload_n 1, 1) := by decide +kernel
theorem d_S_holds_10 : decode b_S_holds 10 = .ok (.iaload, 1) := by decide +kernel
theorem d_S_holds_11 : decode b_S_holds 11 = .ok (.iadd, 1) := by decide +kernel
theorem d_S_holds_12 : decode b_S_holds 12 = .ok (.istore_n 3, 1) := by decide +kernel
theorem d_S_holds_13 : decode b_S_holds 13 = .ok (.aload_n 0, 1) := by decide +kernel
theorem d_S_holds_14 : decode b_S_holds 14 = .ok (.iload_n 1, 1) := by decide +kernel
theorem d_S_holds_15 : decode b_S_holds 15 = .ok (.invokevirtual 34, 3) := by decide +kernel
theorem d_S_holds_18 : decode b_S_holds 18 = .ok (.istore 4, 2) := by decide +kernel
theorem d_S_holds_20 : decode b_S_holds 20 = .ok (.iload 4, 2) := by decide +kernel
theorem d_S_holds_22 : decode b_S_holds 22 = .ok (.iload_n 3, 1) := by decide +kernel
theorem d_S_holds_23 : decode b_S_holds 23 = .ok (.if_icmp .ge 22, 3) := by decide +kernel
theorem d_S_holds_26 : decode b_S_holds 26 = .ok (.aload_n 0, 1) := by decide +kernel
theorem d_S_holds_27 : decode b_S_holds 27 = .ok (.getfield 9, 3) := by decide +kernel
theorem d_S_holds_30 : decode b_S_holds 30 = .ok (.iload 4, 2) := by decide +kernel
theorem d_S_holds_32 : decode b_S_holds 32 = .ok (.iaload, 1) := by decide +kernel
theorem d_S_holds_33 : decode b_S_holds 33 = .ok (.iload_n 2, 1) := by decide +kernel
theorem d_S_holds_34 : decode b_S_holds 34 = .ok (.if_icmp .ne 5, 3) := by decide +kernel
theorem d_S_holds_37 : decode b_S_holds 37 = .ok (.iconst 1, 1) := by decide +kernel
theorem d_S_holds_38 : decode b_S_holds 38 = .ok (.ireturn, 1) := by decide +kernel
theorem d_S_holds_39 : decode b_S_holds 39 = .ok (.iinc 4 1, 3) := by decide +kernel
theorem d_S_holds_42 : decode b_S_holds 42 = .ok (.goto (-22), 3) := by decide +kernel
theorem d_S_holds_45 : decode b_S_holds 45 = .ok (.iconst 0, 1) := by decide +kernel
theorem d_S_holds_46 : decode b_S_holds 46 = .ok (.ireturn, 1) := by decide +kernel
theorem d_S_keep_0 : decode b_S_keep 0 = .ok (.aload_n 1, 1) := by decide +kernel
theorem d_S_keep_1 : decode b_S_keep 1 = .ok (.invokevirtual 37, 3) := by decide +kernel
theorem d_S_keep_4 : decode b_S_keep 4 = .ok (.ifCond .eq 6, 3) := by decide +kernel
theorem d_S_keep_7 : decode b_S_keep 7 = .ok (.bipush (-4), 2) := by decide +kernel
theorem d_S_keep_9 : decode b_S_keep 9 = .ok (.ireturn, 1) := by decide +kernel
theorem d_S_keep_10 : decode b_S_keep 10 = .ok (.iconst 0, 1) := by decide +kernel
theorem d_S_keep_11 : decode b_S_keep 11 = .ok (.istore_n 2, 1) := by decide +kernel
theorem d_S_keep_12 : decode b_S_keep 12 = .ok (.iload_n 2, 1) := by decide +kernel
theorem d_S_keep_13 : decode b_S_keep 13 = .ok (.aload_n 0, 1) := by decide +kernel
theorem d_S_keep_14 : decode b_S_keep 14 = .ok (.getfield 18, 3) := by decide +kernel
theorem d_S_keep_17 : decode b_S_keep 17 = .ok (.if_icmp .ge 36, 3) := by decide +kernel
theorem d_S_keep_20 : decode b_S_keep 20 = .ok (.aload_n 0, 1) := by decide +kernel
theorem d_S_keep_21 : decode b_S_keep 21 = .ok (.getfield 15, 3) := by decide +kernel
theorem d_S_keep_24 : decode b_S_keep 24 = .ok (.iload_n 2, 1) := by decide +kernel
theorem d_S_keep_25 : decode b_S_keep 25 = .ok (.iaload, 1) := by decide +kernel
theorem d_S_keep_26 : decode b_S_keep 26 = .ok (.aload_n 1, 1) := by decide +kernel
theorem d_S_keep_27 : decode b_S_keep 27 = .ok (.invokevirtual 43, 3) := by decide +kernel
theorem d_S_keep_30 : decode b_S_keep 30 = .ok (.if_icmp .ne 17, 3) := by decide +kernel
theorem d_S_keep_33 : decode b_S_keep 33 = .ok (.aload_n 1, 1) := by decide +kernel
theorem d_S_keep_34 : decode b_S_keep 34 = .ok (.aload_n 0, 1) := by decide +kernel
theorem d_S_keep_35 : decode b_S_keep 35 = .ok (.iload_n 2, 1) := by decide +kernel
theorem d_S_keep_36 : decode b_S_keep 36 = .ok (.invokevirtual 34, 3) := by decide +kernel
theorem d_S_keep_39 : decode b_S_keep 39 = .ok (.invokevirtual 47, 3) := by decide +kernel
theorem d_S_keep_42 : decode b_S_keep 42 = .ok (.ifCond .eq 5, 3) := by decide +kernel
theorem d_S_keep_45 : decode b_S_keep 45 = .ok (.iload_n 2, 1) := by decide +kernel
theorem d_S_keep_46 : decode b_S_keep 46 = .ok (.ireturn, 1) := by decide +kernel
theorem d_S_keep_47 : decode b_S_keep 47 = .ok (.iinc 2 1, 3) := by decide +kernel
theorem d_S_keep_50 : decode b_S_keep 50 = .ok (.goto (-38), 3) := by decide +kernel
theorem d_S_keep_53 : decode b_S_keep 53 = .ok (.aload_n 0, 1) := by decide +kernel
theorem d_S_keep_54 : decode b_S_keep 54 = .ok (.getfield 18, 3) := by decide +kernel
theorem d_S_keep_57 : decode b_S_keep 57 = .ok (.bipush 60, 2) := by decide +kernel
theorem d_S_keep_59 : decode b_S_keep 59 = .ok (.if_icmp .ne 6, 3) := by decide +kernel
theorem d_S_keep_62 : decode b_S_keep 62 = .ok (.bipush (-4), 2) := by decide +kernel
theorem d_S_keep_64 : decode b_S_keep 64 = .ok (.ireturn, 1) := by decide +kernel
theorem d_S_keep_65 : decode b_S_keep 65 = .ok (.aload_n 1, 1) := by decide +kernel
theorem d_S_keep_66 : decode b_S_keep 66 = .ok (.aload_n 0, 1) := by decide +kernel
theorem d_S_keep_67 : decode b_S_keep 67 = .ok (.getfield 9, 3) := by decide +kernel
theorem d_S_keep_70 : decode b_S_keep 70 = .ok (.aload_n 0, 1) := by decide +kernel
theorem d_S_keep_71 : decode b_S_keep 71 = .ok (.aload_n 0, 1) := by decide +kernel
theorem d_S_keep_72 : decode b_S_keep 72 = .ok (.getfield 18, 3) := by decide +kernel
theorem d_S_keep_75 : decode b_S_keep 75 = .ok (.invokevirtual 34, 3) := by decide +kernel
theorem d_S_keep_78 : decode b_S_keep 78 = .ok (.invokevirtual 51, 3) := by decide +kernel
theorem d_S_keep_81 : decode b_S_keep 81 = .ok (.aload_n 0, 1) := by decide +kernel
theorem d_S_keep_82 : decode b_S_keep 82 = .ok (.getfield 15, 3) := by decide +kernel
theorem d_S_keep_85 : decode b_S_keep 85 = .ok (.aload_n 0, 1) := by decide +kernel
theorem d_S_keep_86 : decode b_S_keep 86 = .ok (.getfield 18, 3) := by decide +kernel
theorem d_S_keep_89 : decode b_S_keep 89 = .ok (.aload_n 1, 1) := by decide +kernel
theorem d_S_keep_90 : decode b_S_keep 90 = .ok (.invokevirtual 43, 3) := by decide +kernel
theorem d_S_keep_93 : decode b_S_keep 93 = .ok (.iastore, 1) := by decide +kernel
theorem d_S_keep_94 : decode b_S_keep 94 = .ok (.aload_n 0, 1) := by decide +kernel
theorem d_S_keep_95 : decode b_S_keep 95 = .ok (.dup, 1) := by decide +kernel
theorem d_S_keep_96 : decode b_S_keep 96 = .ok (.getfield 18, 3) := by decide +kernel
theorem d_S_keep_99 : decode b_S_keep 99 = .ok (.iconst 1, 1) := by decide +kernel
theorem d_S_keep_100 : decode b_S_keep 100 = .ok (.iadd, 1) := by decide +kernel
theorem d_S_keep_101 : decode b_S_keep 101 = .ok (.putfield 18, 3) := by decide +kernel
theorem d_S_keep_104 : decode b_S_keep 104 = .ok (.aload_n 0, 1) := by decide +kernel
theorem d_S_keep_105 : decode b_S_keep 105 = .ok (.getfield 18, 3) := by decide +kernel
theorem d_S_keep_108 : decode b_S_keep 108 = .ok (.iconst 1, 1) := by decide +kernel
theorem d_S_keep_109 : decode b_S_keep 109 = .ok (.isub, 1) := by decide +kernel
theorem d_S_keep_110 : decode b_S_keep 110 = .ok (.ireturn, 1) := by decide +kernel
theorem d_S_cutTo_0 : decode b_S_cutTo 0 = .ok (.aload_n 0, 1) := by decide +kernel
theorem d_S_cutTo_1 : decode b_S_cutTo 1 = .ok (.iload_n 1, 1) := by decide +kernel
theorem d_S_cutTo_2 : decode b_S_cutTo 2 = .ok (.putfield 18, 3) := by decide +kernel
theorem d_S_cutTo_5 : decode b_S_cutTo 5 = .ok (.return_, 1) := by decide +kernel
theorem d_O_of_0 : decode b_O_of 0 = .ok (.iload_n 0, 1) := by decide +kernel
theorem d_O_of_1 : decode b_O_of 1 = .ok (.bipush 9, 2) := by decide +kernel
theorem d_O_of_3 : decode b_O_of 3 = .ok (.ishl, 1) := by decide +kernel
theorem d_O_of_4 : decode b_O_of 4 = .ok (.iload_n 1, 1) := by decide +kernel
theorem d_O_of_5 : decode b_O_of 5 = .ok (.iconst 4, 1) := by decide +kernel
theorem d_O_of_6 : decode b_O_of 6 = .ok (.ishl, 1) := by decide +kernel
theorem d_O_of_7 : decode b_O_of 7 = .ok (.ior, 1) := by decide +kernel
theorem d_O_of_8 : decode b_O_of 8 = .ok (.iload_n 2, 1) := by decide +kernel
theorem d_O_of_9 : decode b_O_of 9 = .ok (.ior, 1) := by decide +kernel
theorem d_O_of_10 : decode b_O_of 10 = .ok (.ireturn, 1) := by decide +kernel
theorem d_O_tag_0 : decode b_O_tag 0 = .ok (.iload_n 0, 1) := by decide +kernel
theorem d_O_tag_1 : decode b_O_tag 1 = .ok (.bipush 9, 2) := by decide +kernel
theorem d_O_tag_3 : decode b_O_tag 3 = .ok (.ishr, 1) := by decide +kernel
theorem d_O_tag_4 : decode b_O_tag 4 = .ok (.ireturn, 1) := by decide +kernel
theorem d_O_info_0 : decode b_O_info 0 = .ok (.iload_n 0, 1) := by decide +kernel
theorem d_O_info_1 : decode b_O_info 1 = .ok (.iconst 4, 1) := by decide +kernel
theorem d_O_info_2 : decode b_O_info 2 = .ok (.ishr, 1) := by decide +kernel
theorem d_O_info_3 : decode b_O_info 3 = .ok (.bipush 31, 2) := by decide +kernel
theorem d_O_info_5 : decode b_O_info 5 = .ok (.iand, 1) := by decide +kernel
theorem d_O_info_6 : decode b_O_info 6 = .ok (.ireturn, 1) := by decide +kernel
theorem d_O_type_0 : decode b_O_type 0 = .ok (.iload_n 0, 1) := by decide +kernel
theorem d_O_type_1 : decode b_O_type 1 = .ok (.bipush 15, 2) := by decide +kernel
theorem d_O_type_3 : decode b_O_type 3 = .ok (.iand, 1) := by decide +kernel
theorem d_O_type_4 : decode b_O_type 4 = .ok (.ireturn, 1) := by decide +kernel
theorem d_O_binds_0 : decode b_O_binds 0 = .ok (.iload_n 0, 1) := by decide +kernel
theorem d_O_binds_1 : decode b_O_binds 1 = .ok (.bipush 9, 2) := by decide +kernel
theorem d_O_binds_3 : decode b_O_binds 3 = .ok (.ishr, 1) := by decide +kernel
theorem d_O_binds_4 : decode b_O_binds 4 = .ok (.istore_n 1, 1) := by decide +kernel
theorem d_O_binds_5 : decode b_O_binds 5 = .ok (.iload_n 1, 1) := by decide +kernel
theorem d_O_binds_6 : decode b_O_binds 6 = .ok (.iconst 3, 1) := by decide +kernel
theorem d_O_binds_7 : decode b_O_binds 7 = .ok (.if_icmp .eq 8, 3) := by decide +kernel
theorem d_O_binds_10 : decode b_O_binds 10 = .ok (.iload_n 1, 1) := by decide +kernel
theorem d_O_binds_11 : decode b_O_binds 11 = .ok (.iconst 4, 1) := by decide +kernel
theorem d_O_binds_12 : decode b_O_binds 12 = .ok (.if_icmp .ne 7, 3) := by decide +kernel
theorem d_O_binds_15 : decode b_O_binds 15 = .ok (.iconst 1, 1) := by decide +kernel
theorem d_O_binds_16 : decode b_O_binds 16 = .ok (.goto 4, 3) := by decide +kernel
theorem d_O_binds_19 : decode b_O_binds 19 = .ok (.iconst 0, 1) := by decide +kernel
theorem d_O_binds_20 : decode b_O_binds 20 = .ok (.ireturn, 1) := by decide +kernel
theorem d_O_parts_0 : decode b_O_parts 0 = .ok (.iload_n 0, 1) := by decide +kernel
theorem d_O_parts_1 : decode b_O_parts 1 = .ok (.bipush 9, 2) := by decide +kernel
theorem d_O_parts_3 : decode b_O_parts 3 = .ok (.ishr, 1) := by decide +kernel
theorem d_O_parts_4 : decode b_O_parts 4 = .ok (.istore_n 1, 1) := by decide +kernel
theorem d_O_parts_5 : decode b_O_parts 5 = .ok (.iload_n 1, 1) := by decide +kernel
theorem d_O_parts_6 : decode b_O_parts 6 = .ok (.iconst 3, 1) := by decide +kernel
theorem d_O_parts_7 : decode b_O_parts 7 = .ok (.if_icmp .ge 5, 3) := by decide +kernel
theorem d_O_parts_10 : decode b_O_parts 10 = .ok (.iconst 0, 1) := by decide +kernel
theorem d_O_parts_11 : decode b_O_parts 11 = .ok (.ireturn, 1) := by decide +kernel
theorem d_O_parts_12 : decode b_O_parts 12 = .ok (.iload_n 1, 1) := by decide +kernel
theorem d_O_parts_13 : decode b_O_parts 13 = .ok (.iconst 5, 1) := by decide +kernel
theorem d_O_parts_14 : decode b_O_parts 14 = .ok (.if_icmp .ge 7, 3) := by decide +kernel
theorem d_O_parts_17 : decode b_O_parts 17 = .ok (.iconst 1, 1) := by decide +kernel
theorem d_O_parts_18 : decode b_O_parts 18 = .ok (.goto 4, 3) := by decide +kernel
theorem d_O_parts_21 : decode b_O_parts 21 = .ok (.iconst 2, 1) := by decide +kernel
theorem d_O_parts_22 : decode b_O_parts 22 = .ok (.ireturn, 1) := by decide +kernel
theorem d_O_letter_0 : decode b_O_letter 0 = .ok (.iload_n 0, 1) := by decide +kernel
theorem d_O_letter_1 : decode b_O_letter 1 = .ok (.invokestatic 11, 3) := by decide +kernel
theorem d_O_letter_4 : decode b_O_letter 4 = .ok (.tableswitch 80 0 6 #[44, 52, 60, 68, 71, 74, 77], 44) := by decide +kernel
theorem d_O_letter_48 : decode b_O_letter 48 = .ok (.bipush 97, 2) := by decide +kernel
theorem d_O_letter_50 : decode b_O_letter 50 = .ok (.iload_n 0, 1) := by decide +kernel
theorem d_O_letter_51 : decode b_O_letter 51 = .ok (.invokestatic 15, 3) := by decide +kernel
theorem d_O_letter_54 : decode b_O_letter 54 = .ok (.iadd, 1) := by decide +kernel
theorem d_O_letter_55 : decode b_O_letter 55 = .ok (.ireturn, 1) := by decide +kernel
theorem d_O_letter_56 : decode b_O_letter 56 = .ok (.bipush 48, 2) := by decide +kernel
theorem d_O_letter_58 : decode b_O_letter 58 = .ok (.iload_n 0, 1) := by decide +kernel
theorem d_O_letter_59 : decode b_O_letter 59 = .ok (.invokestatic 15, 3) := by decide +kernel
theorem d_O_letter_62 : decode b_O_letter 62 = .ok (.iadd, 1) := by decide +kernel
theorem d_O_letter_63 : decode b_O_letter 63 = .ok (.ireturn, 1) := by decide +kernel
theorem d_O_letter_64 : decode b_O_letter 64 = .ok (.bipush 122, 2) := by decide +kernel
theorem d_O_letter_66 : decode b_O_letter 66 = .ok (.iload_n 0, 1) := by decide +kernel
theorem d_O_letter_67 : decode b_O_letter 67 = .ok (.invokestatic 15, 3) := by decide +kernel
theorem d_O_letter_70 : decode b_O_letter 70 = .ok (.isub, 1) := by decide +kernel
theorem d_O_letter_71 : decode b_O_letter 71 = .ok (.ireturn, 1) := by decide +kernel
theorem d_O_letter_72 : decode b_O_letter 72 = .ok (.bipush 47, 2) := by decide +kernel
theorem d_O_letter_74 : decode b_O_letter 74 = .ok (.ireturn, 1) := by decide +kernel
theorem d_O_letter_75 : decode b_O_letter 75 = .ok (.bipush 33, 2) := by decide +kernel
theorem d_O_letter_77 : decode b_O_letter 77 = .ok (.ireturn, 1) := by decide +kernel
theorem d_O_letter_78 : decode b_O_letter 78 = .ok (.bipush 64, 2) := by decide +kernel
theorem d_O_letter_80 : decode b_O_letter 80 = .ok (.ireturn, 1) := by decide +kernel
theorem d_O_letter_81 : decode b_O_letter 81 = .ok (.bipush 62, 2) := by decide +kernel
theorem d_O_letter_83 : decode b_O_letter 83 = .ok (.ireturn, 1) := by decide +kernel
theorem d_O_letter_84 : decode b_O_letter 84 = .ok (.bipush 61, 2) := by decide +kernel
theorem d_O_letter_86 : decode b_O_letter 86 = .ok (.ireturn, 1) := by decide +kernel
theorem d_O_showsType_0 : decode b_O_showsType 0 = .ok (.iload_n 0, 1) := by decide +kernel
theorem d_O_showsType_1 : decode b_O_showsType 1 = .ok (.invokestatic 11, 3) := by decide +kernel
theorem d_O_showsType_4 : decode b_O_showsType 4 = .ok (.ifCond .eq 10, 3) := by decide +kernel
theorem d_O_showsType_7 : decode b_O_showsType 7 = .ok (.iload_n 0, 1) := by decide +kernel
theorem d_O_showsType_8 : decode b_O_showsType 8 = .ok (.invokestatic 18, 3) := by decide +kernel
theorem d_O_showsType_11 : decode b_O_showsType 11 = .ok (.ifCond .eq 7, 3) := by decide +kernel
theorem d_O_showsType_14 : decode b_O_showsType 14 = .ok (.iconst 1, 1) := by decide +kernel
theorem d_O_showsType_15 : decode b_O_showsType 15 = .ok (.goto 4, 3) := by decide +kernel
theorem d_O_showsType_18 : decode b_O_showsType 18 = .ok (.iconst 0, 1) := by decide +kernel
theorem d_O_showsType_19 : decode b_O_showsType 19 = .ok (.ireturn, 1) := by decide +kernel
theorem d_O_typeLetter_0 : decode b_O_typeLetter 0 = .ok (.bipush 65, 2) := by decide +kernel
theorem d_O_typeLetter_2 : decode b_O_typeLetter 2 = .ok (.iload_n 0, 1) := by decide +kernel
theorem d_O_typeLetter_3 : decode b_O_typeLetter 3 = .ok (.invokestatic 18, 3) := by decide +kernel
theorem d_O_typeLetter_6 : decode b_O_typeLetter 6 = .ok (.ifCond .eq 10, 3) := by decide +kernel
theorem d_O_typeLetter_9 : decode b_O_typeLetter 9 = .ok (.iload_n 0, 1) := by decide +kernel
theorem d_O_typeLetter_10 : decode b_O_typeLetter 10 = .ok (.invokestatic 15, 3) := by decide +kernel
theorem d_O_typeLetter_13 : decode b_O_typeLetter 13 = .ok (.goto 7, 3) := by decide +kernel
theorem d_O_typeLetter_16 : decode b_O_typeLetter 16 = .ok (.iload_n 0, 1) := by decide +kernel
theorem d_O_typeLetter_17 : decode b_O_typeLetter 17 = .ok (.invokestatic 22, 3) := by decide +kernel
theorem d_O_typeLetter_20 : decode b_O_typeLetter 20 = .ok (.iadd, 1) := by decide +kernel
theorem d_O_typeLetter_21 : decode b_O_typeLetter 21 = .ok (.ireturn, 1) := by decide +kernel
theorem d_T_init_0 : decode b_T_init 0 = .ok (.aload_n 0, 1) := by decide +kernel
theorem d_T_init_1 : decode b_T_init 1 = .ok (.invokespecial 3, 3) := by decide +kernel
theorem d_T_init_4 : decode b_T_init 4 = .ok (.aload_n 0, 1) := by decide +kernel
theorem d_T_init_5 : decode b_T_init 5 = .ok (.bipush 16, 2) := by decide +kernel
theorem d_T_init_7 : decode b_T_init 7 = .ok (.newarray .int, 2) := by decide +kernel
theorem d_T_init_9 : decode b_T_init 9 = .ok (.putfield 9, 3) := by decide +kernel
theorem d_T_init_12 : decode b_T_init 12 = .ok (.aload_n 0, 1) := by decide +kernel
theorem d_T_init_13 : decode b_T_init 13 = .ok (.bipush 16, 2) := by decide +kernel
theorem d_T_init_15 : decode b_T_init 15 = .ok (.newarray .int, 2) := by decide +kernel
theorem d_T_init_17 : decode b_T_init 17 = .ok (.putfield 15, 3) := by decide +kernel
theorem d_T_init_20 : decode b_T_init 20 = .ok (.aload_n 0, 1) := by decide +kernel
theorem d_T_init_21 : decode b_T_init 21 = .ok (.iconst 3, 1) := by decide +kernel
theorem d_T_init_22 : decode b_T_init 22 = .ok (.putfield 18, 3) := by decide +kernel
theorem d_T_init_25 : decode b_T_init 25 = .ok (.iconst 0, 1) := by decide +kernel
theorem d_T_init_26 : decode b_T_init 26 = .ok (.istore_n 1, 1) := by decide +kernel
theorem d_T_init_27 : decode b_T_init 27 = .ok (.iload_n 1, 1) := by decide +kernel
theorem d_T_init_28 : decode b_T_init 28 = .ok (.iconst 3, 1) := by decide +kernel
theorem d_T_init_29 : decode b_T_init 29 = .ok (.if_icmp .ge 23, 3) := by decide +kernel
theorem d_T_init_32 : decode b_T_init 32 = .ok (.aload_n 0, 1) := by decide +kernel
theorem d_T_init_33 : decode b_T_init 33 = .ok (.getfield 9, 3) := by decide +kernel
theorem d_T_init_36 : decode b_T_init 36 = .ok (.iload_n 1, 1) := by decide +kernel
theorem d_T_init_37 : decode b_T_init 37 = .ok (.iconst (-1), 1) := by decide +kernel
theorem d_T_init_38 : decode b_T_init 38 = .ok (.iastore, 1) := by decide +kernel
theorem d_T_init_39 : decode b_T_init 39 = .ok (.aload_n 0, 1) := by decide +kernel
theorem d_T_init_40 : decode b_T_init 40 = .ok (.getfield 15, 3) := by decide +kernel
theorem d_T_init_43 : decode b_T_init 43 = .ok (.iload_n 1, 1) := by decide +kernel
theorem d_T_init_44 : decode b_T_init 44 = .ok (.iconst (-1), 1) := by decide +kernel
theorem d_T_init_45 : decode b_T_init 45 = .ok (.iastore, 1) := by decide +kernel
theorem d_T_init_46 : decode b_T_init 46 = .ok (.iinc 1 1, 3) := by decide +kernel
theorem d_T_init_49 : decode b_T_init 49 = .ok (.goto (-22), 3) := by decide +kernel
theorem d_T_init_52 : decode b_T_init 52 = .ok (.return_, 1) := by decide +kernel
theorem d_T_count_0 : decode b_T_count 0 = .ok (.aload_n 0, 1) := by decide +kernel
theorem d_T_count_1 : decode b_T_count 1 = .ok (.getfield 18, 3) := by decide +kernel
theorem d_T_count_4 : decode b_T_count 4 = .ok (.ireturn, 1) := by decide +kernel
theorem d_T_has_0 : decode b_T_has 0 = .ok (.iload_n 1, 1) := by decide +kernel
theorem d_T_has_1 : decode b_T_has 1 = .ok (.ifCond .lt 15, 3) := by decide +kernel
theorem d_T_has_4 : decode b_T_has 4 = .ok (.iload_n 1, 1) := by decide +kernel
theorem d_T_has_5 : decode b_T_has 5 = .ok (.aload_n 0, 1) := by decide +kernel
theorem d_T_has_6 : decode b_T_has 6 = .ok (.getfield 18, 3) := by decide +kernel
theorem d_T_has_9 : decode b_T_has 9 = .ok (.if_icmp .ge 7, 3) := by decide +kernel
theorem d_T_has_12 : decode b_T_has 12 = .ok (.iconst 1, 1) := by decide +kernel
theorem d_T_has_13 : decode b_T_has 13 = .ok (.goto 4, 3) := by decide +kernel
theorem d_T_has_16 : decode b_T_has 16 = .ok (.iconst 0, 1) := by decide +kernel
theorem d_T_has_17 : decode b_T_has 17 = .ok (.ireturn, 1) := by decide +kernel
theorem d_T_takes_0 : decode b_T_takes 0 = .ok (.aload_n 0, 1) := by decide +kernel
theorem d_T_takes_1 : decode b_T_takes 1 = .ok (.getfield 9, 3) := by decide +kernel
theorem d_T_takes_4 : decode b_T_takes 4 = .ok (.iload_n 1, 1) := by decide +kernel
theorem d_T_takes_5 : decode b_T_takes 5 = .ok (.iaload, 1) := by decide +kernel
theorem d_T_takes_6 : decode b_T_takes 6 = .ok (.iload_n 2, 1) := by decide +kernel
theorem d_T_takes_7 : decode b_T_takes 7 = .ok (.if_icmp .ne 7, 3) := by decide +kernel
theorem d_T_takes_10 : decode b_T_takes 10 = .ok (.iconst 1, 1) := by decide +kernel
theorem d_T_takes_11 : decode b_T_takes 11 = .ok (.goto 4, 3) := by decide +kernel
theorem d_T_takes_14 : decode b_T_takes 14 = .ok (.iconst 0, 1) := by decide +kernel
theorem d_T_takes_15 : decode b_T_takes 15 = .ok (.ireturn, 1) := by decide +kernel
theorem d_T_result_0 : decode b_T_result 0 = .ok (.aload_n 0, 1) := by decide +kernel
theorem d_T_result_1 : decode b_T_result 1 = .ok (.getfield 15, 3) := by decide +kernel
theorem d_T_result_4 : decode b_T_result 4 = .ok (.iload_n 1, 1) := by decide +kernel
theorem d_T_result_5 : decode b_T_result 5 = .ok (.iaload, 1) := by decide +kernel
theorem d_T_result_6 : decode b_T_result 6 = .ok (.ireturn, 1) := by decide +kernel
theorem d_T_numberOf_0 : decode b_T_numberOf 0 = .ok (.iconst 3, 1) := by decide +kernel
theorem d_T_numberOf_1 : decode b_T_numberOf 1 = .ok (.istore_n 3, 1) := by decide +kernel
theorem d_T_numberOf_2 : decode b_T_numberOf 2 = .ok (.iload_n 3, 1) := by decide +kernel
theorem d_T_numberOf_3 : decode b_T_numberOf 3 = .ok (.aload_n 0, 1) := by decide +kernel
theorem d_T_numberOf_4 : decode b_T_numberOf 4 = .ok (.getfield 18, 3) := by decide +kernel
theorem d_T_numberOf_7 : decode b_T_numberOf 7 = .ok (.if_icmp .ge 31, 3) := by decide +kernel
theorem d_T_numberOf_10 : decode b_T_numberOf 10 = .ok (.aload_n 0, 1) := by decide +kernel
theorem d_T_numberOf_11 : decode b_T_numberOf 11 = .ok (.getfield 9, 3) := by decide +kernel
theorem d_T_numberOf_14 : decode b_T_numberOf 14 = .ok (.iload_n 3, 1) := by decide +kernel
theorem d_T_numberOf_15 : decode b_T_numberOf 15 = .ok (.iaload, 1) := by decide +kernel
theorem d_T_numberOf_16 : decode b_T_numberOf 16 = .ok (.iload_n 1, 1) := by decide +kernel
theorem d_T_numberOf_17 : decode b_T_numberOf 17 = .ok (.if_icmp .ne 15, 3) := by decide +kernel
theorem d_T_numberOf_20 : decode b_T_numberOf 20 = .ok (.aload_n 0, 1) := by decide +kernel
theorem d_T_numberOf_21 : decode b_T_numberOf 21 = .ok (.getfield 15, 3) := by decide +kernel
theorem d_T_numberOf_24 : decode b_T_numberOf 24 = .ok (.iload_n 3, 1) := by decide +kernel
theorem d_T_numberOf_25 : decode b_T_numberOf 25 = .ok (.iaload, 1) := by decide +kernel
theorem d_T_numberOf_26 : decode b_T_numberOf 26 = .ok (.iload_n 2, 1) := by decide +kernel
theorem d_T_numberOf_27 : decode b_T_numberOf 27 = .ok (.if_icmp .ne 5, 3) := by decide +kernel
theorem d_T_numberOf_30 : decode b_T_numberOf 30 = .ok (.iload_n 3, 1) := by decide +kernel
theorem d_T_numberOf_31 : decode b_T_numberOf 31 = .ok (.ireturn, 1) := by decide +kernel
theorem d_T_numberOf_32 : decode b_T_numberOf 32 = .ok (.iinc 3 1, 3) := by decide +kernel
theorem d_T_numberOf_35 : decode b_T_numberOf 35 = .ok (.goto (-33), 3) := by decide +kernel
theorem d_T_numberOf_38 : decode b_T_numberOf 38 = .ok (.aload_n 0, 1) := by decide +kernel
theorem d_T_numberOf_39 : decode b_T_numberOf 39 = .ok (.getfield 18, 3) := by decide +kernel
theorem d_T_numberOf_42 : decode b_T_numberOf 42 = .ok (.bipush 16, 2) := by decide +kernel
theorem d_T_numberOf_44 : decode b_T_numberOf 44 = .ok (.if_icmp .ne 6, 3) := by decide +kernel
theorem d_T_numberOf_47 : decode b_T_numberOf 47 = .ok (.bipush (-4), 2) := by decide +kernel
theorem d_T_numberOf_49 : decode b_T_numberOf 49 = .ok (.ireturn, 1) := by decide +kernel
theorem d_T_numberOf_50 : decode b_T_numberOf 50 = .ok (.aload_n 0, 1) := by decide +kernel
theorem d_T_numberOf_51 : decode b_T_numberOf 51 = .ok (.getfield 9, 3) := by decide +kernel
theorem d_T_numberOf_54 : decode b_T_numberOf 54 = .ok (.aload_n 0, 1) := by decide +kernel
theorem d_T_numberOf_55 : decode b_T_numberOf 55 = .ok (.getfield 18, 3) := by decide +kernel
theorem d_T_numberOf_58 : decode b_T_numberOf 58 = .ok (.iload_n 1, 1) := by decide +kernel
theorem d_T_numberOf_59 : decode b_T_numberOf 59 = .ok (.iastore, 1) := by decide +kernel
theorem d_T_numberOf_60 : decode b_T_numberOf 60 = .ok (.aload_n 0, 1) := by decide +kernel
theorem d_T_numberOf_61 : decode b_T_numberOf 61 = .ok (.getfield 15, 3) := by decide +kernel
theorem d_T_numberOf_64 : decode b_T_numberOf 64 = .ok (.aload_n 0, 1) := by decide +kernel
theorem d_T_numberOf_65 : decode b_T_numberOf 65 = .ok (.getfield 18, 3) := by decide +kernel
theorem d_T_numberOf_68 : decode b_T_numberOf 68 = .ok (.iload_n 2, 1) := by decide +kernel
theorem d_T_numberOf_69 : decode b_T_numberOf 69 = .ok (.iastore, 1) := by decide +kernel
theorem d_T_numberOf_70 : decode b_T_numberOf 70 = .ok (.aload_n 0, 1) := by decide +kernel
theorem d_T_numberOf_71 : decode b_T_numberOf 71 = .ok (.dup, 1) := by decide +kernel
theorem d_T_numberOf_72 : decode b_T_numberOf 72 = .ok (.getfield 18, 3) := by decide +kernel
theorem d_T_numberOf_75 : decode b_T_numberOf 75 = .ok (.iconst 1, 1) := by decide +kernel
theorem d_T_numberOf_76 : decode b_T_numberOf 76 = .ok (.iadd, 1) := by decide +kernel
theorem d_T_numberOf_77 : decode b_T_numberOf 77 = .ok (.putfield 18, 3) := by decide +kernel
theorem d_T_numberOf_80 : decode b_T_numberOf 80 = .ok (.aload_n 0, 1) := by decide +kernel
theorem d_T_numberOf_81 : decode b_T_numberOf 81 = .ok (.getfield 18, 3) := by decide +kernel
theorem d_T_numberOf_84 : decode b_T_numberOf 84 = .ok (.iconst 1, 1) := by decide +kernel
theorem d_T_numberOf_85 : decode b_T_numberOf 85 = .ok (.isub, 1) := by decide +kernel
theorem d_T_numberOf_86 : decode b_T_numberOf 86 = .ok (.ireturn, 1) := by decide +kernel
theorem d_T_cutTo_0 : decode b_T_cutTo 0 = .ok (.aload_n 0, 1) := by decide +kernel
theorem d_T_cutTo_1 : decode b_T_cutTo 1 = .ok (.iload_n 1, 1) := by decide +kernel
theorem d_T_cutTo_2 : decode b_T_cutTo 2 = .ok (.putfield 18, 3) := by decide +kernel
theorem d_T_cutTo_5 : decode b_T_cutTo 5 = .ok (.return_, 1) := by decide +kernel
end
section
theorem d_M_init_0 : decode b_M_init 0 = .ok (.aload_n 0, 1) := by decide +kernel
theorem d_M_init_1 : decode b_M_init 1 = .ok (.invokespecial 1, 3) := by decide +kernel
theorem d_M_init_4 : decode b_M_init 4 = .ok (.aload_n 0, 1) := by decide +kernel
theorem d_M_init_5 : decode b_M_init 5 = .ok (.sipush 3020, 3) := by decide +kernel
theorem d_M_init_8 : decode b_M_init 8 = .ok (.newarray .int, 2) := by decide +kernel
theorem d_M_init_10 : decode b_M_init 10 = .ok (.putfield 7, 3) := by decide +kernel
theorem d_M_init_13 : decode b_M_init 13 = .ok (.aload_n 0, 1) := by decide +kernel
theorem d_M_init_14 : decode b_M_init 14 = .ok (.bipush 60, 2) := by decide +kernel
theorem d_M_init_16 : decode b_M_init 16 = .ok (.newarray .int, 2) := by decide +kernel
theorem d_M_init_18 : decode b_M_init 18 = .ok (.putfield 13, 3) := by decide +kernel
theorem d_M_init_21 : decode b_M_init 21 = .ok (.aload_n 0, 1) := by decide +kernel
theorem d_M_init_22 : decode b_M_init 22 = .ok (.bipush 60, 2) := by decide +kernel
theorem d_M_init_24 : decode b_M_init 24 = .ok (.newarray .int, 2) := by decide +kernel
theorem d_M_init_26 : decode b_M_init 26 = .ok (.putfield 16, 3) := by decide +kernel
theorem d_M_init_29 : decode b_M_init 29 = .ok (.aload_n 0, 1) := by decide +kernel
theorem d_M_init_30 : decode b_M_init 30 = .ok (.bipush 32, 2) := by decide +kernel
theorem d_M_init_32 : decode b_M_init 32 = .ok (.newarray .int, 2) := by decide +kernel
theorem d_M_init_34 : decode b_M_init 34 = .ok (.putfield 19, 3) := by decide +kernel
theorem d_M_init_37 : decode b_M_init 37 = .ok (.aload_n 0, 1) := by decide +kernel
theorem d_M_init_38 : decode b_M_init 38 = .ok (.iconst 3, 1) := by decide +kernel
theorem d_M_init_39 : decode b_M_init 39 = .ok (.putfield 22, 3) := by decide +kernel
theorem d_M_init_42 : decode b_M_init 42 = .ok (.aload_n 0, 1) := by decide +kernel
theorem d_M_init_43 : decode b_M_init 43 = .ok (.bipush 16, 2) := by decide +kernel
theorem d_M_init_45 : decode b_M_init 45 = .ok (.newarray .int, 2) := by decide +kernel
theorem d_M_init_47 : decode b_M_init 47 = .ok (.putfield 26, 3) := by decide +kernel
theorem d_M_init_50 : decode b_M_init 50 = .ok (.aload_n 0, 1) := by decide +kernel
theorem d_M_init_51 : decode b_M_init 51 = .ok (.bipush 16, 2) := by decide +kernel
theorem d_M_init_53 : decode b_M_init 53 = .ok (.newarray .int, 2) := by decide +kernel
theorem d_M_init_55 : decode b_M_init 55 = .ok (.putfield 29, 3) := by decide +kernel
theorem d_M_init_58 : decode b_M_init 58 = .ok (.aload_n 0, 1) := by decide +kernel
theorem d_M_init_59 : decode b_M_init 59 = .ok (.iconst 4, 1) := by decide +kernel
theorem d_M_init_60 : decode b_M_init 60 = .ok (.newarray .int, 2) := by decide +kernel
theorem d_M_init_62 : decode b_M_init 62 = .ok (.putfield 32, 3) := by decide +kernel
theorem d_M_init_65 : decode b_M_init 65 = .ok (.aload_n 0, 1) := by decide +kernel
theorem d_M_init_66 : decode b_M_init 66 = .ok (.bipush 40, 2) := by decide +kernel
theorem d_M_init_68 : decode b_M_init 68 = .ok (.newarray .long, 2) := by decide +kernel
theorem d_M_init_70 : decode b_M_init 70 = .ok (.putfield 35, 3) := by decide +kernel
theorem d_M_init_73 : decode b_M_init 73 = .ok (.aload_n 0, 1) := by decide +kernel
theorem d_M_init_74 : decode b_M_init 74 = .ok (.bipush 40, 2) := by decide +kernel
theorem d_M_init_76 : decode b_M_init 76 = .ok (.newarray .int, 2) := by decide +kernel
theorem d_M_init_78 : decode b_M_init 78 = .ok (.putfield 39, 3) := by decide +kernel
theorem d_M_init_81 : decode b_M_init 81 = .ok (.aload_n 0, 1) := by decide +kernel
theorem d_M_init_82 : decode b_M_init 82 = .ok (.bipush 40, 2) := by decide +kernel
theorem d_M_init_84 : decode b_M_init 84 = .ok (.newarray .long, 2) := by decide +kernel
theorem d_M_init_86 : decode b_M_init 86 = .ok (.putfield 42, 3) := by decide +kernel
theorem d_M_init_89 : decode b_M_init 89 = .ok (.aload_n 0, 1) := by decide +kernel
theorem d_M_init_90 : decode b_M_init 90 = .ok (.bipush 40, 2) := by decide +kernel
theorem d_M_init_92 : decode b_M_init 92 = .ok (.newarray .int, 2) := by decide +kernel
theorem d_M_init_94 : decode b_M_init 94 = .ok (.putfield 45, 3) := by decide +kernel
theorem d_M_init_97 : decode b_M_init 97 = .ok (.aload_n 0, 1) := by decide +kernel
theorem d_M_init_98 : decode b_M_init 98 = .ok (.bipush 64, 2) := by decide +kernel
theorem d_M_init_100 : decode b_M_init 100 = .ok (.newarray .int, 2) := by decide +kernel
theorem d_M_init_102 : decode b_M_init 102 = .ok (.putfield 48, 3) := by decide +kernel
theorem d_M_init_105 : decode b_M_init 105 = .ok (.return_, 1) := by decide +kernel
theorem d_M_parts_0 : decode b_M_parts 0 = .ok (.iload_n 0, 1) := by decide +kernel
theorem d_M_parts_1 : decode b_M_parts 1 = .ok (.iconst 3, 1) := by decide +kernel
theorem d_M_parts_2 : decode b_M_parts 2 = .ok (.if_icmp .gt 7, 3) := by decide +kernel
theorem d_M_parts_5 : decode b_M_parts 5 = .ok (.iconst 2, 1) := by decide +kernel
theorem d_M_parts_6 : decode b_M_parts 6 = .ok (.goto 14, 3) := by decide +kernel
theorem d_M_parts_9 : decode b_M_parts 9 = .ok (.iload_n 0, 1) := by decide +kernel
theorem d_M_parts_10 : decode b_M_parts 10 = .ok (.bipush 64, 2) := by decide +kernel
theorem d_M_parts_12 : decode b_M_parts 12 = .ok (.if_icmp .ge 7, 3) := by decide +kernel
theorem d_M_parts_15 : decode b_M_parts 15 = .ok (.iconst 1, 1) := by decide +kernel
theorem d_M_parts_16 : decode b_M_parts 16 = .ok (.goto 4, 3) := by decide +kernel
theorem d_M_parts_19 : decode b_M_parts 19 = .ok (.iconst 0, 1) := by decide +kernel
theorem d_M_parts_20 : decode b_M_parts 20 = .ok (.ireturn, 1) := by decide +kernel
theorem d_M_isVariable_0 : decode b_M_isVariable 0 = .ok (.iload_n 0, 1) := by decide +kernel
theorem d_M_isVariable_1 : decode b_M_isVariable 1 = .ok (.bipush 64, 2) := by decide +kernel
theorem d_M_isVariable_3 : decode b_M_isVariable 3 = .ok (.if_icmp .lt 14, 3) := by decide +kernel
theorem d_M_isVariable_6 : decode b_M_isVariable 6 = .ok (.iload_n 0, 1) := by decide +kernel
theorem d_M_isVariable_7 : decode b_M_isVariable 7 = .ok (.sipush 240, 3) := by decide +kernel
theorem d_M_isVariable_10 : decode b_M_isVariable 10 = .ok (.if_icmp .ge 7, 3) := by decide +kernel
theorem d_M_isVariable_13 : decode b_M_isVariable 13 = .ok (.iconst 1, 1) := by decide +kernel
theorem d_M_isVariable_14 : decode b_M_isVariable 14 = .ok (.goto 4, 3) := by decide +kernel
theorem d_M_isVariable_17 : decode b_M_isVariable 17 = .ok (.iconst 0, 1) := by decide +kernel
theorem d_M_isVariable_18 : decode b_M_isVariable 18 = .ok (.ireturn, 1) := by decide +kernel
theorem d_M_end_0 : decode b_M_end 0 = .ok (.iload_n 1, 1) := by decide +kernel
theorem d_M_end_1 : decode b_M_end 1 = .ok (.istore_n 2, 1) := by decide +kernel
theorem d_M_end_2 : decode b_M_end 2 = .ok (.iconst 1, 1) := by decide +kernel
theorem d_M_end_3 : decode b_M_end 3 = .ok (.istore_n 3, 1) := by decide +kernel
theorem d_M_end_4 : decode b_M_end 4 = .ok (.iload_n 3, 1) := by decide +kernel
theorem d_M_end_5 : decode b_M_end 5 = .ok (.ifCond .le 23, 3) := by decide +kernel
theorem d_M_end_8 : decode b_M_end 8 = .ok (.iload_n 3, 1) := by decide +kernel
theorem d_M_end_9 : decode b_M_end 9 = .ok (.aload_n 0, 1) := by decide +kernel
theorem d_M_end_10 : decode b_M_end 10 = .ok (.getfield 7, 3) := by decide +kernel
theorem d_M_end_13 : decode b_M_end 13 = .ok (.iload_n 2, 1) := by decide +kernel
theorem d_M_end_14 : decode b_M_end 14 = .ok (.iaload, 1) := by decide +kernel
theorem d_M_end_15 : decode b_M_end 15 = .ok (.invokestatic 51, 3) := by decide +kernel
theorem d_M_end_18 : decode b_M_end 18 = .ok (.iconst 1, 1) := by decide +kernel
theorem d_M_end_19 : decode b_M_end 19 = .ok (.isub, 1) := by decide +kernel
theorem d_M_end_20 : decode b_M_end 20 = .ok (.iadd, 1) := by decide +kernel
theorem d_M_end_21 : decode b_M_end 21 = .ok (.istore_n 3, 1) := by decide +kernel
theorem d_M_end_22 : decode b_M_end 22 = .ok (.iinc 2 1, 3) := by decide +kernel
theorem d_M_end_25 : decode b_M_end 25 = .ok (.goto (-21), 3) := by decide +kernel
theorem d_M_end_28 : decode b_M_end 28 = .ok (.iload_n 2, 1) := by decide +kernel
theorem d_M_end_29 : decode b_M_end 29 = .ok (.ireturn, 1) := by decide +kernel
theorem d_M_same_0 : decode b_M_same 0 = .ok (.aload_n 0, 1) := by decide +kernel
theorem d_M_same_1 : decode b_M_same 1 = .ok (.iload_n 1, 1) := by decide +kernel
theorem d_M_same_2 : decode b_M_same 2 = .ok (.invokevirtual 55, 3) := by decide +kernel
theorem d_M_same_5 : decode b_M_same 5 = .ok (.iload_n 1, 1) := by decide +kernel
theorem d_M_same_6 : decode b_M_same 6 = .ok (.isub, 1) := by decide +kernel
theorem d_M_same_7 : decode b_M_same 7 = .ok (.istore_n 3, 1) := by decide +kernel
theorem d_M_same_8 : decode b_M_same 8 = .ok (.iload_n 3, 1) := by decide +kernel
theorem d_M_same_9 : decode b_M_same 9 = .ok (.aload_n 0, 1) := by decide +kernel
theorem d_M_same_10 : decode b_M_same 10 = .ok (.iload_n 2, 1) := by decide +kernel
theorem d_M_same_11 : decode b_M_same 11 = .ok (.invokevirtual 55, 3) := by decide +kernel
theorem d_M_same_14 : decode b_M_same 14 = .ok (.iload_n 2, 1) := by decide +kernel
theorem d_M_same_15 : decode b_M_same 15 = .ok (.isub, 1) := by decide +kernel
theorem d_M_same_16 : decode b_M_same 16 = .ok (.if_icmp .ne 7, 3) := by decide +kernel
theorem d_M_same_19 : decode b_M_same 19 = .ok (.iconst 1, 1) := by decide +kernel
theorem d_M_same_20 : decode b_M_same 20 = .ok (.goto 4, 3) := by decide +kernel
theorem d_M_same_23 : decode b_M_same 23 = .ok (.iconst 0, 1) := by decide +kernel
theorem d_M_same_24 : decode b_M_same 24 = .ok (.istore 4, 2) := by decide +kernel
theorem d_M_same_26 : decode b_M_same 26 = .ok (.iconst 0, 1) := by decide +kernel
theorem d_M_same_27 : decode b_M_same 27 = .ok (.istore 5, 2) := by decide +kernel
theorem d_M_same_29 : decode b_M_same 29 = .ok (.iload 5, 2) := by decide +kernel
theorem d_M_same_31 : decode b_M_same 31 = .ok (.iload_n 3, 1) := by decide +kernel
theorem d_M_same_32 : decode b_M_same 32 = .ok (.if_icmp .ge 42, 3) := by decide +kernel
theorem d_M_same_35 : decode b_M_same 35 = .ok (.iload 4, 2) := by decide +kernel
theorem d_M_same_37 : decode b_M_same 37 = .ok (.ifCond .eq 37, 3) := by decide +kernel
theorem d_M_same_40 : decode b_M_same 40 = .ok (.aload_n 0, 1) := by decide +kernel
theorem d_M_same_41 : decode b_M_same 41 = .ok (.getfield 7, 3) := by decide +kernel
theorem d_M_same_44 : decode b_M_same 44 = .ok (.iload_n 1, 1) := by decide +kernel
theorem d_M_same_45 : decode b_M_same 45 = .ok (.iload 5, 2) := by decide +kernel
theorem d_M_same_47 : decode b_M_same 47 = .ok (.iadd, 1) := by decide +kernel
theorem d_M_same_48 : decode b_M_same 48 = .ok (.iaload, 1) := by decide +kernel
theorem d_M_same_49 : decode b_M_same 49 = .ok (.aload_n 0, 1) := by decide +kernel
theorem d_M_same_50 : decode b_M_same 50 = .ok (.getfield 7, 3) := by decide +kernel
theorem d_M_same_53 : decode b_M_same 53 = .ok (.iload_n 2, 1) := by decide +kernel
theorem d_M_same_54 : decode b_M_same 54 = .ok (.iload 5, 2) := by decide +kernel
theorem d_M_same_56 : decode b_M_same 56 = .ok (.iadd, 1) := by decide +kernel
theorem d_M_same_57 : decode b_M_same 57 = .ok (.iaload, 1) := by decide +kernel
theorem d_M_same_58 : decode b_M_same 58 = .ok (.if_icmp .ne 7, 3) := by decide +kernel
theorem d_M_same_61 : decode b_M_same 61 = .ok (.iconst 1, 1) := by decide +kernel
theorem d_M_same_62 : decode b_M_same 62 = .ok (.goto 4, 3) := by decide +kernel
theorem d_M_same_65 : decode b_M_same 65 = .ok (.iconst 0, 1) := by decide +kernel
theorem d_M_same_66 : decode b_M_same 66 = .ok (.istore 4, 2) := by decide +kernel
theorem d_M_same_68 : decode b_M_same 68 = .ok (.iinc 5 1, 3) := by decide +kernel
theorem d_M_same_71 : decode b_M_same 71 = .ok (.goto (-42), 3) := by decide +kernel
theorem d_M_same_74 : decode b_M_same 74 = .ok (.iload 4, 2) := by decide +kernel
theorem d_M_same_76 : decode b_M_same 76 = .ok (.ireturn, 1) := by decide +kernel
theorem d_M_depth_0 : decode b_M_depth 0 = .ok (.iconst 0, 1) := by decide +kernel
theorem d_M_depth_1 : decode b_M_depth 1 = .ok (.istore_n 3, 1) := by decide +kernel
theorem d_M_depth_2 : decode b_M_depth 2 = .ok (.iload_n 1, 1) := by decide +kernel
theorem d_M_depth_3 : decode b_M_depth 3 = .ok (.istore 4, 2) := by decide +kernel
theorem d_M_depth_5 : decode b_M_depth 5 = .ok (.iload 4, 2) := by decide +kernel
theorem d_M_depth_7 : decode b_M_depth 7 = .ok (.iload_n 2, 1) := by decide +kernel
theorem d_M_depth_8 : decode b_M_depth 8 = .ok (.if_icmp .ge 41, 3) := by decide +kernel
theorem d_M_depth_11 : decode b_M_depth 11 = .ok (.iload_n 3, 1) := by decide +kernel
theorem d_M_depth_12 : decode b_M_depth 12 = .ok (.aload_n 0, 1) := by decide +kernel
theorem d_M_depth_13 : decode b_M_depth 13 = .ok (.getfield 7, 3) := by decide +kernel
theorem d_M_depth_16 : decode b_M_depth 16 = .ok (.iload 4, 2) := by decide +kernel
theorem d_M_depth_18 : decode b_M_depth 18 = .ok (.iaload, 1) := by decide +kernel
theorem d_M_depth_19 : decode b_M_depth 19 = .ok (.invokestatic 51, 3) := by decide +kernel
theorem d_M_depth_22 : decode b_M_depth 22 = .ok (.iconst 1, 1) := by decide +kernel
theorem d_M_depth_23 : decode b_M_depth 23 = .ok (.if_icmp .ne 17, 3) := by decide +kernel
theorem d_M_depth_26 : decode b_M_depth 26 = .ok (.aload_n 0, 1) := by decide +kernel
theorem d_M_depth_27 : decode b_M_depth 27 = .ok (.iload 4, 2) := by decide +kernel
theorem d_M_depth_29 : decode b_M_depth 29 = .ok (.invokevirtual 55, 3) := by decide +kernel
theorem d_M_depth_32 : decode b_M_depth 32 = .ok (.iload_n 2, 1) := by decide +kernel
theorem d_M_depth_33 : decode b_M_depth 33 = .ok (.if_icmp .le 7, 3) := by decide +kernel
theorem d_M_depth_36 : decode b_M_depth 36 = .ok (.iconst 1, 1) := by decide +kernel
theorem d_M_depth_37 : decode b_M_depth 37 = .ok (.goto 4, 3) := by decide +kernel
theorem d_M_depth_40 : decode b_M_depth 40 = .ok (.iconst 0, 1) := by decide +kernel
theorem d_M_depth_41 : decode b_M_depth 41 = .ok (.iadd, 1) := by decide +kernel
theorem d_M_depth_42 : decode b_M_depth 42 = .ok (.istore_n 3, 1) := by decide +kernel
theorem d_M_depth_43 : decode b_M_depth 43 = .ok (.iinc 4 1, 3) := by decide +kernel
theorem d_M_depth_46 : decode b_M_depth 46 = .ok (.goto (-41), 3) := by decide +kernel
theorem d_M_depth_49 : decode b_M_depth 49 = .ok (.iload_n 3, 1) := by decide +kernel
theorem d_M_depth_50 : decode b_M_depth 50 = .ok (.ireturn, 1) := by decide +kernel
theorem d_M_binder_0 : decode b_M_binder 0 = .ok (.aload_n 0, 1) := by decide +kernel
theorem d_M_binder_1 : decode b_M_binder 1 = .ok (.getfield 7, 3) := by decide +kernel
theorem d_M_binder_4 : decode b_M_binder 4 = .ok (.iload_n 1, 1) := by decide +kernel
theorem d_M_binder_5 : decode b_M_binder 5 = .ok (.iaload, 1) := by decide +kernel
theorem d_M_binder_6 : decode b_M_binder 6 = .ok (.sipush 256, 3) := by decide +kernel
theorem d_M_binder_9 : decode b_M_binder 9 = .ok (.isub, 1) := by decide +kernel
theorem d_M_binder_10 : decode b_M_binder 10 = .ok (.istore_n 2, 1) := by decide +kernel
theorem d_M_binder_11 : decode b_M_binder 11 = .ok (.iload_n 1, 1) := by decide +kernel
theorem d_M_binder_12 : decode b_M_binder 12 = .ok (.iconst 1, 1) := by decide +kernel
theorem d_M_binder_13 : decode b_M_binder 13 = .ok (.isub, 1) := by decide +kernel
theorem d_M_binder_14 : decode b_M_binder 14 = .ok (.istore_n 3, 1) := by decide +kernel
theorem d_M_binder_15 : decode b_M_binder 15 = .ok (.aload_n 0, 1) := by decide +kernel
theorem d_M_binder_16 : decode b_M_binder 16 = .ok (.getfield 7, 3) := by decide +kernel
theorem d_M_binder_19 : decode b_M_binder 19 = .ok (.iload_n 3, 1) := by decide +kernel
theorem d_M_binder_20 : decode b_M_binder 20 = .ok (.iaload, 1) := by decide +kernel
theorem d_M_binder_21 : decode b_M_binder 21 = .ok (.invokestatic 51, 3) := by decide +kernel
theorem d_M_binder_24 : decode b_M_binder 24 = .ok (.iconst 1, 1) := by decide +kernel
theorem d_M_binder_25 : decode b_M_binder 25 = .ok (.if_icmp .ne 16, 3) := by decide +kernel
theorem d_M_binder_28 : decode b_M_binder 28 = .ok (.aload_n 0, 1) := by decide +kernel
theorem d_M_binder_29 : decode b_M_binder 29 = .ok (.iload_n 3, 1) := by decide +kernel
theorem d_M_binder_30 : decode b_M_binder 30 = .ok (.invokevirtual 55, 3) := by decide +kernel
theorem d_M_binder_33 : decode b_M_binder 33 = .ok (.iload_n 1, 1) := by decide +kernel
theorem d_M_binder_34 : decode b_M_binder 34 = .ok (.if_icmp .le 7, 3) := by decide +kernel
theorem d_M_binder_37 : decode b_M_binder 37 = .ok (.iload_n 2, 1) := by decide +kernel
theorem d_M_binder_38 : decode b_M_binder 38 = .ok (.ifCond .le 39, 3) := by decide +kernel
theorem d_M_binder_41 : decode b_M_binder 41 = .ok (.aload_n 0, 1) := by decide +kernel
theorem d_M_binder_42 : decode b_M_binder 42 = .ok (.getfield 7, 3) := by decide +kernel
theorem d_M_binder_45 : decode b_M_binder 45 = .ok (.iload_n 3, 1) := by decide +kernel
theorem d_M_binder_46 : decode b_M_binder 46 = .ok (.iaload, 1) := by decide +kernel
theorem d_M_binder_47 : decode b_M_binder 47 = .ok (.invokestatic 51, 3) := by decide +kernel
theorem d_M_binder_50 : decode b_M_binder 50 = .ok (.iconst 1, 1) := by decide +kernel
theorem d_M_binder_51 : decode b_M_binder 51 = .ok (.if_icmp .ne 18, 3) := by decide +kernel
theorem d_M_binder_54 : decode b_M_binder 54 = .ok (.aload_n 0, 1) := by decide +kernel
theorem d_M_binder_55 : decode b_M_binder 55 = .ok (.iload_n 3, 1) := by decide +kernel
theorem d_M_binder_56 : decode b_M_binder 56 = .ok (.invokevirtual 55, 3) := by decide +kernel
theorem d_M_binder_59 : decode b_M_binder 59 = .ok (.iload_n 1, 1) := by decide +kernel
theorem d_M_binder_60 : decode b_M_binder 60 = .ok (.if_icmp .le 9, 3) := by decide +kernel
theorem d_M_binder_63 : decode b_M_binder 63 = .ok (.iload_n 2, 1) := by decide +kernel
theorem d_M_binder_64 : decode b_M_binder 64 = .ok (.iconst 1, 1) := by decide +kernel
theorem d_M_binder_65 : decode b_M_binder 65 = .ok (.isub, 1) := by decide +kernel
theorem d_M_binder_66 : decode b_M_binder 66 = .ok (.goto 4, 3) := by decide +kernel
theorem d_M_binder_69 : decode b_M_binder 69 = .ok (.iload_n 2, 1) := by decide +kernel
theorem d_M_binder_70 : decode b_M_binder 70 = .ok (.istore_n 2, 1) := by decide +kernel
theorem d_M_binder_71 : decode b_M_binder 71 = .ok (.iinc 3 (-1), 3) := by decide +kernel
theorem d_M_binder_74 : decode b_M_binder 74 = .ok (.goto (-59), 3) := by decide +kernel
theorem d_M_binder_77 : decode b_M_binder 77 = .ok (.aload_n 0, 1) := by decide +kernel
theorem d_M_binder_78 : decode b_M_binder 78 = .ok (.getfield 7, 3) := by decide +kernel
theorem d_M_binder_81 : decode b_M_binder 81 = .ok (.iload_n 3, 1) := by decide +kernel
theorem d_M_binder_82 : decode b_M_binder 82 = .ok (.iaload, 1) := by decide +kernel
theorem d_M_binder_83 : decode b_M_binder 83 = .ok (.bipush 15, 2) := by decide +kernel
theorem d_M_binder_85 : decode b_M_binder 85 = .ok (.iand, 1) := by decide +kernel
theorem d_M_binder_86 : decode b_M_binder 86 = .ok (.ireturn, 1) := by decide +kernel
theorem d_M_find_0 : decode b_M_find 0 = .ok (.iconst 3, 1) := by decide +kernel
theorem d_M_find_1 : decode b_M_find 1 = .ok (.istore_n 3, 1) := by decide +kernel
theorem d_M_find_2 : decode b_M_find 2 = .ok (.iload_n 3, 1) := by decide +kernel
theorem d_M_find_3 : decode b_M_find 3 = .ok (.aload_n 0, 1) := by decide +kernel
theorem d_M_find_4 : decode b_M_find 4 = .ok (.getfield 22, 3) := by decide +kernel
theorem d_M_find_7 : decode b_M_find 7 = .ok (.if_icmp .ge 31, 3) := by decide +kernel
theorem d_M_find_10 : decode b_M_find 10 = .ok (.aload_n 0, 1) := by decide +kernel
theorem d_M_find_11 : decode b_M_find 11 = .ok (.getfield 26, 3) := by decide +kernel
theorem d_M_find_14 : decode b_M_find 14 = .ok (.iload_n 3, 1) := by decide +kernel
theorem d_M_find_15 : decode b_M_find 15 = .ok (.iaload, 1) := by decide +kernel
theorem d_M_find_16 : decode b_M_find 16 = .ok (.iload_n 1, 1) := by decide +kernel
theorem d_M_find_17 : decode b_M_find 17 = .ok (.if_icmp .ne 15, 3) := by decide +kernel
theorem d_M_find_20 : decode b_M_find 20 = .ok (.aload_n 0, 1) := by decide +kernel
theorem d_M_find_21 : decode b_M_find 21 = .ok (.getfield 29, 3) := by decide +kernel
theorem d_M_find_24 : decode b_M_find 24 = .ok (.iload_n 3, 1) := by decide +kernel
theorem d_M_find_25 : decode b_M_find 25 = .ok (.iaload, 1) := by decide +kernel
theorem d_M_find_26 : decode b_M_find 26 = .ok (.iload_n 2, 1) := by decide +kernel
theorem d_M_find_27 : decode b_M_find 27 = .ok (.if_icmp .ne 5, 3) := by decide +kernel
theorem d_M_find_30 : decode b_M_find 30 = .ok (.iload_n 3, 1) := by decide +kernel
theorem d_M_find_31 : decode b_M_find 31 = .ok (.ireturn, 1) := by decide +kernel
theorem d_M_find_32 : decode b_M_find 32 = .ok (.iinc 3 1, 3) := by decide +kernel
theorem d_M_find_35 : decode b_M_find 35 = .ok (.goto (-33), 3) := by decide +kernel
theorem d_M_find_38 : decode b_M_find 38 = .ok (.iconst (-1), 1) := by decide +kernel
theorem d_M_find_39 : decode b_M_find 39 = .ok (.ireturn, 1) := by decide +kernel
theorem d_M_typesAt_0 : decode b_M_typesAt 0 = .ok (.aload_n 0, 1) := by decide +kernel
theorem d_M_typesAt_1 : decode b_M_typesAt 1 = .ok (.iload_n 1, 1) := by decide +kernel
theorem d_M_typesAt_2 : decode b_M_typesAt 2 = .ok (.invokevirtual 55, 3) := by decide +kernel
theorem d_M_typesAt_5 : decode b_M_typesAt 5 = .ok (.iconst 1, 1) := by decide +kernel
theorem d_M_typesAt_6 : decode b_M_typesAt 6 = .ok (.isub, 1) := by decide +kernel
theorem d_M_typesAt_7 : decode b_M_typesAt 7 = .ok (.istore_n 2, 1) := by decide +kernel
theorem d_M_typesAt_8 : decode b_M_typesAt 8 = .ok (.iload_n 2, 1) := by decide +kernel
theorem d_M_typesAt_9 : decode b_M_typesAt 9 = .ok (.iload_n 1, 1) := by decide +kernel
theorem d_M_typesAt_10 : decode b_M_typesAt 10 = .ok (.if_icmp .lt 145, 3) := by decide +kernel
theorem d_M_typesAt_13 : decode b_M_typesAt 13 = .ok (.aload_n 0, 1) := by decide +kernel
theorem d_M_typesAt_14 : decode b_M_typesAt 14 = .ok (.getfield 7, 3) := by decide +kernel
theorem d_M_typesAt_17 : decode b_M_typesAt 17 = .ok (.iload_n 2, 1) := by decide +kernel
theorem d_M_typesAt_18 : decode b_M_typesAt 18 = .ok (.iaload, 1) := by decide +kernel
theorem d_M_typesAt_19 : decode b_M_typesAt 19 = .ok (.istore_n 3, 1) := by decide +kernel
theorem d_M_typesAt_20 : decode b_M_typesAt 20 = .ok (.iload_n 2, 1) := by decide +kernel
theorem d_M_typesAt_21 : decode b_M_typesAt 21 = .ok (.iload_n 1, 1) := by decide +kernel
theorem d_M_typesAt_22 : decode b_M_typesAt 22 = .ok (.isub, 1) := by decide +kernel
theorem d_M_typesAt_23 : decode b_M_typesAt 23 = .ok (.iconst 1, 1) := by decide +kernel
theorem d_M_typesAt_24 : decode b_M_typesAt 24 = .ok (.iadd, 1) := by decide +kernel
theorem d_M_typesAt_25 : decode b_M_typesAt 25 = .ok (.bipush 32, 2) := by decide +kernel
theorem d_M_typesAt_27 : decode b_M_typesAt 27 = .ok (.if_icmp .ge 16, 3) := by decide +kernel
theorem d_M_typesAt_30 : decode b_M_typesAt 30 = .ok (.aload_n 0, 1) := by decide +kernel
theorem d_M_typesAt_31 : decode b_M_typesAt 31 = .ok (.getfield 19, 3) := by decide +kernel
theorem d_M_typesAt_34 : decode b_M_typesAt 34 = .ok (.iload_n 2, 1) := by decide +kernel
theorem d_M_typesAt_35 : decode b_M_typesAt 35 = .ok (.iload_n 1, 1) := by decide +kernel
theorem d_M_typesAt_36 : decode b_M_typesAt 36 = .ok (.isub, 1) := by decide +kernel
theorem d_M_typesAt_37 : decode b_M_typesAt 37 = .ok (.iconst 1, 1) := by decide +kernel
theorem d_M_typesAt_38 : decode b_M_typesAt 38 = .ok (.iadd, 1) := by decide +kernel
theorem d_M_typesAt_39 : decode b_M_typesAt 39 = .ok (.iaload, 1) := by decide +kernel
theorem d_M_typesAt_40 : decode b_M_typesAt 40 = .ok (.goto 4, 3) := by decide +kernel
theorem d_M_typesAt_43 : decode b_M_typesAt 43 = .ok (.iconst 0, 1) := by decide +kernel
theorem d_M_typesAt_44 : decode b_M_typesAt 44 = .ok (.istore 4, 2) := by decide +kernel
theorem d_M_typesAt_46 : decode b_M_typesAt 46 = .ok (.iload_n 3, 1) := by decide +kernel
theorem d_M_typesAt_47 : decode b_M_typesAt 47 = .ok (.iconst 1, 1) := by decide +kernel
theorem d_M_typesAt_48 : decode b_M_typesAt 48 = .ok (.if_icmp .ne 13, 3) := by decide +kernel
theorem d_M_typesAt_51 : decode b_M_typesAt 51 = .ok (.aload_n 0, 1) := by decide +kernel
theorem d_M_typesAt_52 : decode b_M_typesAt 52 = .ok (.getfield 29, 3) := by decide +kernel
theorem d_M_typesAt_55 : decode b_M_typesAt 55 = .ok (.iload 4, 2) := by decide +kernel
theorem d_M_typesAt_57 : decode b_M_typesAt 57 = .ok (.iaload, 1) := by decide +kernel
theorem d_M_typesAt_58 : decode b_M_typesAt 58 = .ok (.goto 54, 3) := by decide +kernel
theorem d_M_typesAt_61 : decode b_M_typesAt 61 = .ok (.iload_n 3, 1) := by decide +kernel
theorem d_M_typesAt_62 : decode b_M_typesAt 62 = .ok (.sipush 256, 3) := by decide +kernel
theorem d_M_typesAt_65 : decode b_M_typesAt 65 = .ok (.if_icmp .lt 11, 3) := by decide +kernel
theorem d_M_typesAt_68 : decode b_M_typesAt 68 = .ok (.aload_n 0, 1) := by decide +kernel
theorem d_M_typesAt_69 : decode b_M_typesAt 69 = .ok (.iload_n 2, 1) := by decide +kernel
theorem d_M_typesAt_70 : decode b_M_typesAt 70 = .ok (.invokevirtual 58, 3) := by decide +kernel
theorem d_M_typesAt_73 : decode b_M_typesAt 73 = .ok (.goto 39, 3) := by decide +kernel
theorem d_M_typesAt_76 : decode b_M_typesAt 76 = .ok (.iload_n 3, 1) := by decide +kernel
theorem d_M_typesAt_77 : decode b_M_typesAt 77 = .ok (.sipush 240, 3) := by decide +kernel
theorem d_M_typesAt_80 : decode b_M_typesAt 80 = .ok (.if_icmp .lt 18, 3) := by decide +kernel
theorem d_M_typesAt_83 : decode b_M_typesAt 83 = .ok (.aload_n 0, 1) := by decide +kernel
theorem d_M_typesAt_84 : decode b_M_typesAt 84 = .ok (.getfield 32, 3) := by decide +kernel
theorem d_M_typesAt_87 : decode b_M_typesAt 87 = .ok (.iload_n 3, 1) := by decide +kernel
theorem d_M_typesAt_88 : decode b_M_typesAt 88 = .ok (.sipush 240, 3) := by decide +kernel
theorem d_M_typesAt_91 : decode b_M_typesAt 91 = .ok (.isub, 1) := by decide +kernel
theorem d_M_typesAt_92 : decode b_M_typesAt 92 = .ok (.iaload, 1) := by decide +kernel
theorem d_M_typesAt_93 : decode b_M_typesAt 93 = .ok (.iconst 1, 1) := by decide +kernel
theorem d_M_typesAt_94 : decode b_M_typesAt 94 = .ok (.isub, 1) := by decide +kernel
theorem d_M_typesAt_95 : decode b_M_typesAt 95 = .ok (.goto 17, 3) := by decide +kernel
theorem d_M_typesAt_98 : decode b_M_typesAt 98 = .ok (.iload_n 3, 1) := by decide +kernel
theorem d_M_typesAt_99 : decode b_M_typesAt 99 = .ok (.bipush 64, 2) := by decide +kernel
theorem d_M_typesAt_101 : decode b_M_typesAt 101 = .ok (.if_icmp .lt 10, 3) := by decide +kernel
theorem d_M_typesAt_104 : decode b_M_typesAt 104 = .ok (.iload_n 3, 1) := by decide +kernel
theorem d_M_typesAt_105 : decode b_M_typesAt 105 = .ok (.bipush 15, 2) := by decide +kernel
theorem d_M_typesAt_107 : decode b_M_typesAt 107 = .ok (.iand, 1) := by decide +kernel
theorem d_M_typesAt_108 : decode b_M_typesAt 108 = .ok (.goto 4, 3) := by decide +kernel
theorem d_M_typesAt_111 : decode b_M_typesAt 111 = .ok (.iconst 0, 1) := by decide +kernel
theorem d_M_typesAt_112 : decode b_M_typesAt 112 = .ok (.istore 5, 2) := by decide +kernel
theorem d_M_typesAt_114 : decode b_M_typesAt 114 = .ok (.aload_n 0, 1) := by decide +kernel
theorem d_M_typesAt_115 : decode b_M_typesAt 115 = .ok (.getfield 19, 3) := by decide +kernel
theorem d_M_typesAt_118 : decode b_M_typesAt 118 = .ok (.iload_n 2, 1) := by decide +kernel
theorem d_M_typesAt_119 : decode b_M_typesAt 119 = .ok (.iload_n 1, 1) := by decide +kernel
theorem d_M_typesAt_120 : decode b_M_typesAt 120 = .ok (.isub, 1) := by decide +kernel
theorem d_M_typesAt_121 : decode b_M_typesAt 121 = .ok (.iload_n 3, 1) := by decide +kernel
theorem d_M_typesAt_122 : decode b_M_typesAt 122 = .ok (.bipush 16, 2) := by decide +kernel
theorem d_M_typesAt_124 : decode b_M_typesAt 124 = .ok (.if_icmp .lt 22, 3) := by decide +kernel
theorem d_M_typesAt_127 : decode b_M_typesAt 127 = .ok (.iload_n 3, 1) := by decide +kernel
theorem d_M_typesAt_128 : decode b_M_typesAt 128 = .ok (.bipush 32, 2) := by decide +kernel
theorem d_M_typesAt_130 : decode b_M_typesAt 130 = .ok (.if_icmp .ge 16, 3) := by decide +kernel
theorem d_M_typesAt_133 : decode b_M_typesAt 133 = .ok (.aload_n 0, 1) := by decide +kernel
theorem d_M_typesAt_134 : decode b_M_typesAt 134 = .ok (.iload_n 3, 1) := by decide +kernel
theorem d_M_typesAt_135 : decode b_M_typesAt 135 = .ok (.bipush 15, 2) := by decide +kernel
theorem d_M_typesAt_137 : decode b_M_typesAt 137 = .ok (.iand, 1) := by decide +kernel
theorem d_M_typesAt_138 : decode b_M_typesAt 138 = .ok (.iload 4, 2) := by decide +kernel
theorem d_M_typesAt_140 : decode b_M_typesAt 140 = .ok (.invokevirtual 61, 3) := by decide +kernel
theorem d_M_typesAt_143 : decode b_M_typesAt 143 = .ok (.goto 5, 3) := by decide +kernel
theorem d_M_typesAt_146 : decode b_M_typesAt 146 = .ok (.iload 5, 2) := by decide +kernel
theorem d_M_typesAt_148 : decode b_M_typesAt 148 = .ok (.iastore, 1) := by decide +kernel
theorem d_M_typesAt_149 : decode b_M_typesAt 149 = .ok (.iinc 2 (-1), 3) := by decide +kernel
theorem d_M_typesAt_152 : decode b_M_typesAt 152 = .ok (.goto (-144), 3) := by decide +kernel
theorem d_M_typesAt_155 : decode b_M_typesAt 155 = .ok (.aload_n 0, 1) := by decide +kernel
theorem d_M_typesAt_156 : decode b_M_typesAt 156 = .ok (.getfield 19, 3) := by decide +kernel
theorem d_M_typesAt_159 : decode b_M_typesAt 159 = .ok (.iconst 0, 1) := by decide +kernel
theorem d_M_typesAt_160 : decode b_M_typesAt 160 = .ok (.iaload, 1) := by decide +kernel
theorem d_M_typesAt_161 : decode b_M_typesAt 161 = .ok (.ireturn, 1) := by decide +kernel
theorem d_M_put_0 : decode b_M_put 0 = .ok (.aload_n 0, 1) := by decide +kernel
theorem d_M_put_1 : decode b_M_put 1 = .ok (.getfield 7, 3) := by decide +kernel
theorem d_M_put_4 : decode b_M_put 4 = .ok (.sipush 1920, 3) := by decide +kernel
theorem d_M_put_7 : decode b_M_put 7 = .ok (.aload_n 0, 1) := by decide +kernel
theorem d_M_put_8 : decode b_M_put 8 = .ok (.getfield 65, 3) := by decide +kernel
theorem d_M_put_11 : decode b_M_put 11 = .ok (.iadd, 1) := by decide +kernel
theorem d_M_put_12 : decode b_M_put 12 = .ok (.iload_n 1, 1) := by decide +kernel
theorem d_M_put_13 : decode b_M_put 13 = .ok (.iastore, 1) := by decide +kernel
theorem d_M_put_14 : decode b_M_put 14 = .ok (.aload_n 0, 1) := by decide +kernel
theorem d_M_put_15 : decode b_M_put 15 = .ok (.dup, 1) := by decide +kernel
theorem d_M_put_16 : decode b_M_put 16 = .ok (.getfield 65, 3) := by decide +kernel
theorem d_M_put_19 : decode b_M_put 19 = .ok (.iconst 1, 1) := by decide +kernel
theorem d_M_put_20 : decode b_M_put 20 = .ok (.iadd, 1) := by decide +kernel
theorem d_M_put_21 : decode b_M_put 21 = .ok (.putfield 65, 3) := by decide +kernel
theorem d_M_put_24 : decode b_M_put 24 = .ok (.return_, 1) := by decide +kernel
theorem d_M_copy_0 : decode b_M_copy 0 = .ok (.aload_n 0, 1) := by decide +kernel
theorem d_M_copy_1 : decode b_M_copy 1 = .ok (.iload_n 1, 1) := by decide +kernel
theorem d_M_copy_2 : decode b_M_copy 2 = .ok (.invokevirtual 55, 3) := by decide +kernel
theorem d_M_copy_5 : decode b_M_copy 5 = .ok (.istore_n 2, 1) := by decide +kernel
theorem d_M_copy_6 : decode b_M_copy 6 = .ok (.iload_n 1, 1) := by decide +kernel
theorem d_M_copy_7 : decode b_M_copy 7 = .ok (.istore_n 3, 1) := by decide +kernel
theorem d_M_copy_8 : decode b_M_copy 8 = .ok (.iload_n 3, 1) := by decide +kernel
theorem d_M_copy_9 : decode b_M_copy 9 = .ok (.iload_n 2, 1) := by decide +kernel
theorem d_M_copy_10 : decode b_M_copy 10 = .ok (.if_icmp .ge 19, 3) := by decide +kernel
theorem d_M_copy_13 : decode b_M_copy 13 = .ok (.aload_n 0, 1) := by decide +kernel
theorem d_M_copy_14 : decode b_M_copy 14 = .ok (.aload_n 0, 1) := by decide +kernel
theorem d_M_copy_15 : decode b_M_copy 15 = .ok (.getfield 7, 3) := by decide +kernel
theorem d_M_copy_18 : decode b_M_copy 18 = .ok (.iload_n 3, 1) := by decide +kernel
theorem d_M_copy_19 : decode b_M_copy 19 = .ok (.iaload, 1) := by decide +kernel
theorem d_M_copy_20 : decode b_M_copy 20 = .ok (.invokevirtual 68, 3) := by decide +kernel
theorem d_M_copy_23 : decode b_M_copy 23 = .ok (.iinc 3 1, 3) := by decide +kernel
theorem d_M_copy_26 : decode b_M_copy 26 = .ok (.goto (-18), 3) := by decide +kernel
theorem d_M_copy_29 : decode b_M_copy 29 = .ok (.return_, 1) := by decide +kernel
theorem d_M_copyWith_0 : decode b_M_copyWith 0 = .ok (.aload_n 0, 1) := by decide +kernel
theorem d_M_copyWith_1 : decode b_M_copyWith 1 = .ok (.iload_n 1, 1) := by decide +kernel
theorem d_M_copyWith_2 : decode b_M_copyWith 2 = .ok (.invokevirtual 55, 3) := by decide +kernel
theorem d_M_copyWith_5 : decode b_M_copyWith 5 = .ok (.istore 4, 2) := by decide +kernel
theorem d_M_copyWith_7 : decode b_M_copyWith 7 = .ok (.iload_n 1, 1) := by decide +kernel
theorem d_M_copyWith_8 : decode b_M_copyWith 8 = .ok (.istore 5, 2) := by decide +kernel
theorem d_M_copyWith_10 : decode b_M_copyWith 10 = .ok (.iload 5, 2) := by decide +kernel
theorem d_M_copyWith_12 : decode b_M_copyWith 12 = .ok (.iload 4, 2) := by decide +kernel
theorem d_M_copyWith_14 : decode b_M_copyWith 14 = .ok (.if_icmp .ge 61, 3) := by decide +kernel
theorem d_M_copyWith_17 : decode b_M_copyWith 17 = .ok (.aload_n 0, 1) := by decide +kernel
theorem d_M_copyWith_18 : decode b_M_copyWith 18 = .ok (.getfield 7, 3) := by decide +kernel
theorem d_M_copyWith_21 : decode b_M_copyWith 21 = .ok (.iload 5, 2) := by decide +kernel
theorem d_M_copyWith_23 : decode b_M_copyWith 23 = .ok (.iaload, 1) := by decide +kernel
theorem d_M_copyWith_24 : decode b_M_copyWith 24 = .ok (.iload_n 2, 1) := by decide +kernel
theorem d_M_copyWith_25 : decode b_M_copyWith 25 = .ok (.if_icmp .eq 17, 3) := by decide +kernel
theorem d_M_copyWith_28 : decode b_M_copyWith 28 = .ok (.aload_n 0, 1) := by decide +kernel
theorem d_M_copyWith_29 : decode b_M_copyWith 29 = .ok (.aload_n 0, 1) := by decide +kernel
theorem d_M_copyWith_30 : decode b_M_copyWith 30 = .ok (.getfield 7, 3) := by decide +kernel
theorem d_M_copyWith_33 : decode b_M_copyWith 33 = .ok (.iload 5, 2) := by decide +kernel
theorem d_M_copyWith_35 : decode b_M_copyWith 35 = .ok (.iaload, 1) := by decide +kernel
theorem d_M_copyWith_36 : decode b_M_copyWith 36 = .ok (.invokevirtual 68, 3) := by decide +kernel
theorem d_M_copyWith_39 : decode b_M_copyWith 39 = .ok (.goto 30, 3) := by decide +kernel
theorem d_M_copyWith_42 : decode b_M_copyWith 42 = .ok (.iload_n 3, 1) := by decide +kernel
theorem d_M_copyWith_43 : decode b_M_copyWith 43 = .ok (.ifCond .lt 11, 3) := by decide +kernel
theorem d_M_copyWith_46 : decode b_M_copyWith 46 = .ok (.aload_n 0, 1) := by decide +kernel
theorem d_M_copyWith_47 : decode b_M_copyWith 47 = .ok (.iload_n 3, 1) := by decide +kernel
theorem d_M_copyWith_48 : decode b_M_copyWith 48 = .ok (.invokevirtual 72, 3) := by decide +kernel
theorem d_M_copyWith_51 : decode b_M_copyWith 51 = .ok (.goto 18, 3) := by decide +kernel
theorem d_M_copyWith_54 : decode b_M_copyWith 54 = .ok (.aload_n 0, 1) := by decide +kernel
theorem d_M_copyWith_55 : decode b_M_copyWith 55 = .ok (.sipush 256, 3) := by decide +kernel
theorem d_M_copyWith_58 : decode b_M_copyWith 58 = .ok (.aload_n 0, 1) := by decide +kernel
theorem d_M_copyWith_59 : decode b_M_copyWith 59 = .ok (.iload_n 1, 1) := by decide +kernel
theorem d_M_copyWith_60 : decode b_M_copyWith 60 = .ok (.iload 5, 2) := by decide +kernel
theorem d_M_copyWith_62 : decode b_M_copyWith 62 = .ok (.invokevirtual 75, 3) := by decide +kernel
theorem d_M_copyWith_65 : decode b_M_copyWith 65 = .ok (.iadd, 1) := by decide +kernel
theorem d_M_copyWith_66 : decode b_M_copyWith 66 = .ok (.invokevirtual 68, 3) := by decide +kernel
theorem d_M_copyWith_69 : decode b_M_copyWith 69 = .ok (.iinc 5 1, 3) := by decide +kernel
theorem d_M_copyWith_72 : decode b_M_copyWith 72 = .ok (.goto (-62), 3) := by decide +kernel
theorem d_M_copyWith_75 : decode b_M_copyWith 75 = .ok (.return_, 1) := by decide +kernel
theorem d_M_copyOpened_0 : decode b_M_copyOpened 0 = .ok (.aload_n 0, 1) := by decide +kernel
theorem d_M_copyOpened_1 : decode b_M_copyOpened 1 = .ok (.iload_n 1, 1) := by decide +kernel
theorem d_M_copyOpened_2 : decode b_M_copyOpened 2 = .ok (.invokevirtual 55, 3) := by decide +kernel
theorem d_M_copyOpened_5 : decode b_M_copyOpened 5 = .ok (.istore_n 3, 1) := by decide +kernel
theorem d_M_copyOpened_6 : decode b_M_copyOpened 6 = .ok (.iload_n 1, 1) := by decide +kernel
theorem d_M_copyOpened_7 : decode b_M_copyOpened 7 = .ok (.istore 4, 2) := by decide +kernel
theorem d_M_copyOpened_9 : decode b_M_copyOpened 9 = .ok (.iload 4, 2) := by decide +kernel
theorem d_M_copyOpened_11 : decode b_M_copyOpened 11 = .ok (.iload_n 3, 1) := by decide +kernel
theorem d_M_copyOpened_12 : decode b_M_copyOpened 12 = .ok (.if_icmp .ge 62, 3) := by decide +kernel
theorem d_M_copyOpened_15 : decode b_M_copyOpened 15 = .ok (.aload_n 0, 1) := by decide +kernel
theorem d_M_copyOpened_16 : decode b_M_copyOpened 16 = .ok (.getfield 7, 3) := by decide +kernel
theorem d_M_copyOpened_19 : decode b_M_copyOpened 19 = .ok (.iload 4, 2) := by decide +kernel
theorem d_M_copyOpened_21 : decode b_M_copyOpened 21 = .ok (.iaload, 1) := by decide +kernel
theorem d_M_copyOpened_22 : decode b_M_copyOpened 22 = .ok (.sipush 256, 3) := by decide +kernel
theorem d_M_copyOpened_25 : decode b_M_copyOpened 25 = .ok (.if_icmp .lt 32, 3) := by decide +kernel
theorem d_M_copyOpened_28 : decode b_M_copyOpened 28 = .ok (.aload_n 0, 1) := by decide +kernel
theorem d_M_copyOpened_29 : decode b_M_copyOpened 29 = .ok (.getfield 7, 3) := by decide +kernel
theorem d_M_copyOpened_32 : decode b_M_copyOpened 32 = .ok (.iload 4, 2) := by decide +kernel
theorem d_M_copyOpened_34 : decode b_M_copyOpened 34 = .ok (.iaload, 1) := by decide +kernel
theorem d_M_copyOpened_35 : decode b_M_copyOpened 35 = .ok (.sipush 256, 3) := by decide +kernel
theorem d_M_copyOpened_38 : decode b_M_copyOpened 38 = .ok (.isub, 1) := by decide +kernel
theorem d_M_copyOpened_39 : decode b_M_copyOpened 39 = .ok (.aload_n 0, 1) := by decide +kernel
theorem d_M_copyOpened_40 : decode b_M_copyOpened 40 = .ok (.iload_n 1, 1) := by decide +kernel
theorem d_M_copyOpened_41 : decode b_M_copyOpened 41 = .ok (.iload 4, 2) := by decide +kernel
theorem d_M_copyOpened_43 : decode b_M_copyOpened 43 = .ok (.invokevirtual 75, 3) := by decide +kernel
theorem d_M_copyOpened_46 : decode b_M_copyOpened 46 = .ok (.if_icmp .ne 11, 3) := by decide +kernel
theorem d_M_copyOpened_49 : decode b_M_copyOpened 49 = .ok (.aload_n 0, 1) := by decide +kernel
theorem d_M_copyOpened_50 : decode b_M_copyOpened 50 = .ok (.iload_n 2, 1) := by decide +kernel
theorem d_M_copyOpened_51 : decode b_M_copyOpened 51 = .ok (.invokevirtual 72, 3) := by decide +kernel
theorem d_M_copyOpened_54 : decode b_M_copyOpened 54 = .ok (.goto 14, 3) := by decide +kernel
theorem d_M_copyOpened_57 : decode b_M_copyOpened 57 = .ok (.aload_n 0, 1) := by decide +kernel
theorem d_M_copyOpened_58 : decode b_M_copyOpened 58 = .ok (.aload_n 0, 1) := by decide +kernel
theorem d_M_copyOpened_59 : decode b_M_copyOpened 59 = .ok (.getfield 7, 3) := by decide +kernel
theorem d_M_copyOpened_62 : decode b_M_copyOpened 62 = .ok (.iload 4, 2) := by decide +kernel
theorem d_M_copyOpened_64 : decode b_M_copyOpened 64 = .ok (.iaload, 1) := by decide +kernel
theorem d_M_copyOpened_65 : decode b_M_copyOpened 65 = .ok (.invokevirtual 68, 3) := by decide +kernel
theorem d_M_copyOpened_68 : decode b_M_copyOpened 68 = .ok (.iinc 4 1, 3) := by decide +kernel
theorem d_M_copyOpened_71 : decode b_M_copyOpened 71 = .ok (.goto (-62), 3) := by decide +kernel
theorem d_M_copyOpened_74 : decode b_M_copyOpened 74 = .ok (.return_, 1) := by decide +kernel
theorem d_M_keep_0 : decode b_M_keep 0 = .ok (.aload_n 0, 1) := by decide +kernel
theorem d_M_keep_1 : decode b_M_keep 1 = .ok (.getfield 65, 3) := by decide +kernel
theorem d_M_keep_4 : decode b_M_keep 4 = .ok (.bipush 30, 2) := by decide +kernel
theorem d_M_keep_6 : decode b_M_keep 6 = .ok (.if_icmp .le 6, 3) := by decide +kernel
theorem d_M_keep_9 : decode b_M_keep 9 = .ok (.bipush (-4), 2) := by decide +kernel
theorem d_M_keep_11 : decode b_M_keep 11 = .ok (.ireturn, 1) := by decide +kernel
theorem d_M_keep_12 : decode b_M_keep 12 = .ok (.iconst 0, 1) := by decide +kernel
theorem d_M_keep_13 : decode b_M_keep 13 = .ok (.istore_n 1, 1) := by decide +kernel
theorem d_M_keep_14 : decode b_M_keep 14 = .ok (.iload_n 1, 1) := by decide +kernel
theorem d_M_keep_15 : decode b_M_keep 15 = .ok (.aload_n 0, 1) := by decide +kernel
theorem d_M_keep_16 : decode b_M_keep 16 = .ok (.getfield 78, 3) := by decide +kernel
theorem d_M_keep_19 : decode b_M_keep 19 = .ok (.if_icmp .ge 38, 3) := by decide +kernel
theorem d_M_keep_22 : decode b_M_keep 22 = .ok (.aload_n 0, 1) := by decide +kernel
theorem d_M_keep_23 : decode b_M_keep 23 = .ok (.getfield 13, 3) := by decide +kernel
theorem d_M_keep_26 : decode b_M_keep 26 = .ok (.iload_n 1, 1) := by decide +kernel
theorem d_M_keep_27 : decode b_M_keep 27 = .ok (.iaload, 1) := by decide +kernel
theorem d_M_keep_28 : decode b_M_keep 28 = .ok (.aload_n 0, 1) := by decide +kernel
theorem d_M_keep_29 : decode b_M_keep 29 = .ok (.getfield 65, 3) := by decide +kernel
theorem d_M_keep_32 : decode b_M_keep 32 = .ok (.if_icmp .ne 19, 3) := by decide +kernel
theorem d_M_keep_35 : decode b_M_keep 35 = .ok (.aload_n 0, 1) := by decide +kernel
theorem d_M_keep_36 : decode b_M_keep 36 = .ok (.bipush 32, 2) := by decide +kernel
theorem d_M_keep_38 : decode b_M_keep 38 = .ok (.iload_n 1, 1) := by decide +kernel
theorem d_M_keep_39 : decode b_M_keep 39 = .ok (.imul, 1) := by decide +kernel
theorem d_M_keep_40 : decode b_M_keep 40 = .ok (.sipush 1920, 3) := by decide +kernel
theorem d_M_keep_43 : decode b_M_keep 43 = .ok (.invokevirtual 81, 3) := by decide +kernel
theorem d_M_keep_46 : decode b_M_keep 46 = .ok (.ifCond .eq 5, 3) := by decide +kernel
theorem d_M_keep_49 : decode b_M_keep 49 = .ok (.iload_n 1, 1) := by decide +kernel
theorem d_M_keep_50 : decode b_M_keep 50 = .ok (.ireturn, 1) := by decide +kernel
theorem d_M_keep_51 : decode b_M_keep 51 = .ok (.iinc 1 1, 3) := by decide +kernel
theorem d_M_keep_54 : decode b_M_keep 54 = .ok (.goto (-40), 3) := by decide +kernel
theorem d_M_keep_57 : decode b_M_keep 57 = .ok (.aload_n 0, 1) := by decide +kernel
theorem d_M_keep_58 : decode b_M_keep 58 = .ok (.getfield 78, 3) := by decide +kernel
theorem d_M_keep_61 : decode b_M_keep 61 = .ok (.bipush 60, 2) := by decide +kernel
theorem d_M_keep_63 : decode b_M_keep 63 = .ok (.if_icmp .ne 6, 3) := by decide +kernel
theorem d_M_keep_66 : decode b_M_keep 66 = .ok (.bipush (-4), 2) := by decide +kernel
theorem d_M_keep_68 : decode b_M_keep 68 = .ok (.ireturn, 1) := by decide +kernel
theorem d_M_keep_69 : decode b_M_keep 69 = .ok (.iconst 0, 1) := by decide +kernel
theorem d_M_keep_70 : decode b_M_keep 70 = .ok (.istore_n 1, 1) := by decide +kernel
theorem d_M_keep_71 : decode b_M_keep 71 = .ok (.iload_n 1, 1) := by decide +kernel
theorem d_M_keep_72 : decode b_M_keep 72 = .ok (.aload_n 0, 1) := by decide +kernel
theorem d_M_keep_73 : decode b_M_keep 73 = .ok (.getfield 65, 3) := by decide +kernel
theorem d_M_keep_76 : decode b_M_keep 76 = .ok (.if_icmp .ge 33, 3) := by decide +kernel
theorem d_M_keep_79 : decode b_M_keep 79 = .ok (.aload_n 0, 1) := by decide +kernel
theorem d_M_keep_80 : decode b_M_keep 80 = .ok (.getfield 7, 3) := by decide +kernel
theorem d_M_keep_83 : decode b_M_keep 83 = .ok (.bipush 32, 2) := by decide +kernel
theorem d_M_keep_85 : decode b_M_keep 85 = .ok (.aload_n 0, 1) := by decide +kernel
theorem d_M_keep_86 : decode b_M_keep 86 = .ok (.getfield 78, 3) := by decide +kernel
theorem d_M_keep_89 : decode b_M_keep 89 = .ok (.imul, 1) := by decide +kernel
theorem d_M_keep_90 : decode b_M_keep 90 = .ok (.iload_n 1, 1) := by decide +kernel
theorem d_M_keep_91 : decode b_M_keep 91 = .ok (.iadd, 1) := by decide +kernel
theorem d_M_keep_92 : decode b_M_keep 92 = .ok (.aload_n 0, 1) := by decide +kernel
theorem d_M_keep_93 : decode b_M_keep 93 = .ok (.getfield 7, 3) := by decide +kernel
theorem d_M_keep_96 : decode b_M_keep 96 = .ok (.sipush 1920, 3) := by decide +kernel
theorem d_M_keep_99 : decode b_M_keep 99 = .ok (.iload_n 1, 1) := by decide +kernel
theorem d_M_keep_100 : decode b_M_keep 100 = .ok (.iadd, 1) := by decide +kernel
theorem d_M_keep_101 : decode b_M_keep 101 = .ok (.iaload, 1) := by decide +kernel
theorem d_M_keep_102 : decode b_M_keep 102 = .ok (.iastore, 1) := by decide +kernel
theorem d_M_keep_103 : decode b_M_keep 103 = .ok (.iinc 1 1, 3) := by decide +kernel
theorem d_M_keep_106 : decode b_M_keep 106 = .ok (.goto (-35), 3) := by decide +kernel
theorem d_M_keep_109 : decode b_M_keep 109 = .ok (.aload_n 0, 1) := by decide +kernel
theorem d_M_keep_110 : decode b_M_keep 110 = .ok (.getfield 13, 3) := by decide +kernel
theorem d_M_keep_113 : decode b_M_keep 113 = .ok (.aload_n 0, 1) := by decide +kernel
theorem d_M_keep_114 : decode b_M_keep 114 = .ok (.getfield 78, 3) := by decide +kernel
theorem d_M_keep_117 : decode b_M_keep 117 = .ok (.aload_n 0, 1) := by decide +kernel
theorem d_M_keep_118 : decode b_M_keep 118 = .ok (.getfield 65, 3) := by decide +kernel
theorem d_M_keep_121 : decode b_M_keep 121 = .ok (.iastore, 1) := by decide +kernel
theorem d_M_keep_122 : decode b_M_keep 122 = .ok (.aload_n 0, 1) := by decide +kernel
theorem d_M_keep_123 : decode b_M_keep 123 = .ok (.getfield 16, 3) := by decide +kernel
theorem d_M_keep_126 : decode b_M_keep 126 = .ok (.aload_n 0, 1) := by decide +kernel
theorem d_M_keep_127 : decode b_M_keep 127 = .ok (.getfield 78, 3) := by decide +kernel
theorem d_M_keep_130 : decode b_M_keep 130 = .ok (.aload_n 0, 1) := by decide +kernel
theorem d_M_keep_131 : decode b_M_keep 131 = .ok (.bipush 32, 2) := by decide +kernel
theorem d_M_keep_133 : decode b_M_keep 133 = .ok (.aload_n 0, 1) := by decide +kernel
theorem d_M_keep_134 : decode b_M_keep 134 = .ok (.getfield 78, 3) := by decide +kernel
theorem d_M_keep_137 : decode b_M_keep 137 = .ok (.imul, 1) := by decide +kernel
theorem d_M_keep_138 : decode b_M_keep 138 = .ok (.invokevirtual 85, 3) := by decide +kernel
theorem d_M_keep_141 : decode b_M_keep 141 = .ok (.iastore, 1) := by decide +kernel
theorem d_M_keep_142 : decode b_M_keep 142 = .ok (.aload_n 0, 1) := by decide +kernel
theorem d_M_keep_143 : decode b_M_keep 143 = .ok (.dup, 1) := by decide +kernel
theorem d_M_keep_144 : decode b_M_keep 144 = .ok (.getfield 78, 3) := by decide +kernel
theorem d_M_keep_147 : decode b_M_keep 147 = .ok (.iconst 1, 1) := by decide +kernel
theorem d_M_keep_148 : decode b_M_keep 148 = .ok (.iadd, 1) := by decide +kernel
theorem d_M_keep_149 : decode b_M_keep 149 = .ok (.putfield 78, 3) := by decide +kernel
theorem d_M_keep_152 : decode b_M_keep 152 = .ok (.aload_n 0, 1) := by decide +kernel
theorem d_M_keep_153 : decode b_M_keep 153 = .ok (.getfield 78, 3) := by decide +kernel
theorem d_M_keep_156 : decode b_M_keep 156 = .ok (.iconst 1, 1) := by decide +kernel
theorem d_M_keep_157 : decode b_M_keep 157 = .ok (.isub, 1) := by decide +kernel
theorem d_M_keep_158 : decode b_M_keep 158 = .ok (.ireturn, 1) := by decide +kernel
theorem d_M_isType_0 : decode b_M_isType 0 = .ok (.iload_n 1, 1) := by decide +kernel
theorem d_M_isType_1 : decode b_M_isType 1 = .ok (.ifCond .lt 15, 3) := by decide +kernel
theorem d_M_isType_4 : decode b_M_isType 4 = .ok (.iload_n 1, 1) := by decide +kernel
theorem d_M_isType_5 : decode b_M_isType 5 = .ok (.aload_n 0, 1) := by decide +kernel
theorem d_M_isType_6 : decode b_M_isType 6 = .ok (.getfield 22, 3) := by decide +kernel
theorem d_M_isType_9 : decode b_M_isType 9 = .ok (.if_icmp .ge 7, 3) := by decide +kernel
theorem d_M_isType_12 : decode b_M_isType 12 = .ok (.iconst 1, 1) := by decide +kernel
theorem d_M_isType_13 : decode b_M_isType 13 = .ok (.goto 4, 3) := by decide +kernel
theorem d_M_isType_16 : decode b_M_isType 16 = .ok (.iconst 0, 1) := by decide +kernel
theorem d_M_isType_17 : decode b_M_isType 17 = .ok (.ireturn, 1) := by decide +kernel
theorem d_M_isTerm_0 : decode b_M_isTerm 0 = .ok (.iload_n 1, 1) := by decide +kernel
theorem d_M_isTerm_1 : decode b_M_isTerm 1 = .ok (.ifCond .lt 15, 3) := by decide +kernel
theorem d_M_isTerm_4 : decode b_M_isTerm 4 = .ok (.iload_n 1, 1) := by decide +kernel
theorem d_M_isTerm_5 : decode b_M_isTerm 5 = .ok (.aload_n 0, 1) := by decide +kernel
theorem d_M_isTerm_6 : decode b_M_isTerm 6 = .ok (.getfield 78, 3) := by decide +kernel
theorem d_M_isTerm_9 : decode b_M_isTerm 9 = .ok (.if_icmp .ge 7, 3) := by decide +kernel
theorem d_M_isTerm_12 : decode b_M_isTerm 12 = .ok (.iconst 1, 1) := by decide +kernel
theorem d_M_isTerm_13 : decode b_M_isTerm 13 = .ok (.goto 4, 3) := by decide +kernel
theorem d_M_isTerm_16 : decode b_M_isTerm 16 = .ok (.iconst 0, 1) := by decide +kernel
theorem d_M_isTerm_17 : decode b_M_isTerm 17 = .ok (.ireturn, 1) := by decide +kernel
theorem d_M_isVariableTerm_0 : decode b_M_isVariableTerm 0 = .ok (.aload_n 0, 1) := by decide +kernel
theorem d_M_isVariableTerm_1 : decode b_M_isVariableTerm 1 = .ok (.getfield 13, 3) := by decide +kernel
theorem d_M_isVariableTerm_4 : decode b_M_isVariableTerm 4 = .ok (.iload_n 1, 1) := by decide +kernel
theorem d_M_isVariableTerm_5 : decode b_M_isVariableTerm 5 = .ok (.iaload, 1) := by decide +kernel
theorem d_M_isVariableTerm_6 : decode b_M_isVariableTerm 6 = .ok (.iconst 1, 1) := by decide +kernel
theorem d_M_isVariableTerm_7 : decode b_M_isVariableTerm 7 = .ok (.if_icmp .ne 22, 3) := by decide +kernel
theorem d_M_isVariableTerm_10 : decode b_M_isVariableTerm 10 = .ok (.aload_n 0, 1) := by decide +kernel
theorem d_M_isVariableTerm_11 : decode b_M_isVariableTerm 11 = .ok (.getfield 7, 3) := by decide +kernel
theorem d_M_isVariableTerm_14 : decode b_M_isVariableTerm 14 = .ok (.bipush 32, 2) := by decide +kernel
theorem d_M_isVariableTerm_16 : decode b_M_isVariableTerm 16 = .ok (.iload_n 1, 1) := by decide +kernel
theorem d_M_isVariableTerm_17 : decode b_M_isVariableTerm 17 = .ok (.imul, 1) := by decide +kernel
theorem d_M_isVariableTerm_18 : decode b_M_isVariableTerm 18 = .ok (.iaload, 1) := by decide +kernel
theorem d_M_isVariableTerm_19 : decode b_M_isVariableTerm 19 = .ok (.invokestatic 88, 3) := by decide +kernel
theorem d_M_isVariableTerm_22 : decode b_M_isVariableTerm 22 = .ok (.ifCond .eq 7, 3) := by decide +kernel
theorem d_M_isVariableTerm_25 : decode b_M_isVariableTerm 25 = .ok (.iconst 1, 1) := by decide +kernel
theorem d_M_isVariableTerm_26 : decode b_M_isVariableTerm 26 = .ok (.goto 4, 3) := by decide +kernel
theorem d_M_isVariableTerm_29 : decode b_M_isVariableTerm 29 = .ok (.iconst 0, 1) := by decide +kernel
theorem d_M_isVariableTerm_30 : decode b_M_isVariableTerm 30 = .ok (.ireturn, 1) := by decide +kernel
theorem d_M_arrow_0 : decode b_M_arrow 0 = .ok (.aload_n 0, 1) := by decide +kernel
theorem d_M_arrow_1 : decode b_M_arrow 1 = .ok (.iload_n 1, 1) := by decide +kernel
theorem d_M_arrow_2 : decode b_M_arrow 2 = .ok (.invokevirtual 92, 3) := by decide +kernel
theorem d_M_arrow_5 : decode b_M_arrow 5 = .ok (.ifCond .eq 11, 3) := by decide +kernel
theorem d_M_arrow_8 : decode b_M_arrow 8 = .ok (.aload_n 0, 1) := by decide +kernel
theorem d_M_arrow_9 : decode b_M_arrow 9 = .ok (.iload_n 2, 1) := by decide +kernel
theorem d_M_arrow_10 : decode b_M_arrow 10 = .ok (.invokevirtual 92, 3) := by decide +kernel
theorem d_M_arrow_13 : decode b_M_arrow 13 = .ok (.ifCond .ne 5, 3) := by decide +kernel
theorem d_M_arrow_16 : decode b_M_arrow 16 = .ok (.iconst (-1), 1) := by decide +kernel
theorem d_M_arrow_17 : decode b_M_arrow 17 = .ok (.ireturn, 1) := by decide +kernel
theorem d_M_arrow_18 : decode b_M_arrow 18 = .ok (.aload_n 0, 1) := by decide +kernel
theorem d_M_arrow_19 : decode b_M_arrow 19 = .ok (.iload_n 1, 1) := by decide +kernel
theorem d_M_arrow_20 : decode b_M_arrow 20 = .ok (.iload_n 2, 1) := by decide +kernel
theorem d_M_arrow_21 : decode b_M_arrow 21 = .ok (.invokevirtual 61, 3) := by decide +kernel
theorem d_M_arrow_24 : decode b_M_arrow 24 = .ok (.istore_n 3, 1) := by decide +kernel
theorem d_M_arrow_25 : decode b_M_arrow 25 = .ok (.iload_n 3, 1) := by decide +kernel
theorem d_M_arrow_26 : decode b_M_arrow 26 = .ok (.ifCond .ge 12, 3) := by decide +kernel
theorem d_M_arrow_29 : decode b_M_arrow 29 = .ok (.aload_n 0, 1) := by decide +kernel
theorem d_M_arrow_30 : decode b_M_arrow 30 = .ok (.getfield 22, 3) := by decide +kernel
theorem d_M_arrow_33 : decode b_M_arrow 33 = .ok (.bipush 16, 2) := by decide +kernel
theorem d_M_arrow_35 : decode b_M_arrow 35 = .ok (.if_icmp .ne 14, 3) := by decide +kernel
theorem d_M_arrow_38 : decode b_M_arrow 38 = .ok (.iload_n 3, 1) := by decide +kernel
theorem d_M_arrow_39 : decode b_M_arrow 39 = .ok (.ifCond .lt 7, 3) := by decide +kernel
theorem d_M_arrow_42 : decode b_M_arrow 42 = .ok (.iload_n 3, 1) := by decide +kernel
theorem d_M_arrow_43 : decode b_M_arrow 43 = .ok (.goto 5, 3) := by decide +kernel
theorem d_M_arrow_46 : decode b_M_arrow 46 = .ok (.bipush (-4), 2) := by decide +kernel
theorem d_M_arrow_48 : decode b_M_arrow 48 = .ok (.ireturn, 1) := by decide +kernel
theorem d_M_arrow_49 : decode b_M_arrow 49 = .ok (.aload_n 0, 1) := by decide +kernel
theorem d_M_arrow_50 : decode b_M_arrow 50 = .ok (.getfield 26, 3) := by decide +kernel
theorem d_M_arrow_53 : decode b_M_arrow 53 = .ok (.aload_n 0, 1) := by decide +kernel
theorem d_M_arrow_54 : decode b_M_arrow 54 = .ok (.getfield 22, 3) := by decide +kernel
theorem d_M_arrow_57 : decode b_M_arrow 57 = .ok (.iload_n 1, 1) := by decide +kernel
theorem d_M_arrow_58 : decode b_M_arrow 58 = .ok (.iastore, 1) := by decide +kernel
theorem d_M_arrow_59 : decode b_M_arrow 59 = .ok (.aload_n 0, 1) := by decide +kernel
theorem d_M_arrow_60 : decode b_M_arrow 60 = .ok (.getfield 29, 3) := by decide +kernel
theorem d_M_arrow_63 : decode b_M_arrow 63 = .ok (.aload_n 0, 1) := by decide +kernel
theorem d_M_arrow_64 : decode b_M_arrow 64 = .ok (.getfield 22, 3) := by decide +kernel
theorem d_M_arrow_67 : decode b_M_arrow 67 = .ok (.iload_n 2, 1) := by decide +kernel
theorem d_M_arrow_68 : decode b_M_arrow 68 = .ok (.iastore, 1) := by decide +kernel
theorem d_M_arrow_69 : decode b_M_arrow 69 = .ok (.aload_n 0, 1) := by decide +kernel
theorem d_M_arrow_70 : decode b_M_arrow 70 = .ok (.dup, 1) := by decide +kernel
theorem d_M_arrow_71 : decode b_M_arrow 71 = .ok (.getfield 22, 3) := by decide +kernel
theorem d_M_arrow_74 : decode b_M_arrow 74 = .ok (.iconst 1, 1) := by decide +kernel
theorem d_M_arrow_75 : decode b_M_arrow 75 = .ok (.iadd, 1) := by decide +kernel
theorem d_M_arrow_76 : decode b_M_arrow 76 = .ok (.putfield 22, 3) := by decide +kernel
theorem d_M_arrow_79 : decode b_M_arrow 79 = .ok (.aload_n 0, 1) := by decide +kernel
theorem d_M_arrow_80 : decode b_M_arrow 80 = .ok (.getfield 22, 3) := by decide +kernel
theorem d_M_arrow_83 : decode b_M_arrow 83 = .ok (.iconst 1, 1) := by decide +kernel
theorem d_M_arrow_84 : decode b_M_arrow 84 = .ok (.isub, 1) := by decide +kernel
theorem d_M_arrow_85 : decode b_M_arrow 85 = .ok (.ireturn, 1) := by decide +kernel
theorem d_M_variable_0 : decode b_M_variable 0 = .ok (.iload_n 1, 1) := by decide +kernel
theorem d_M_variable_1 : decode b_M_variable 1 = .ok (.ifCond .lt 17, 3) := by decide +kernel
theorem d_M_variable_4 : decode b_M_variable 4 = .ok (.iload_n 1, 1) := by decide +kernel
theorem d_M_variable_5 : decode b_M_variable 5 = .ok (.bipush 9, 2) := by decide +kernel
theorem d_M_variable_7 : decode b_M_variable 7 = .ok (.if_icmp .gt 11, 3) := by decide +kernel
theorem d_M_variable_10 : decode b_M_variable 10 = .ok (.aload_n 0, 1) := by decide +kernel
theorem d_M_variable_11 : decode b_M_variable 11 = .ok (.iload_n 2, 1) := by decide +kernel
theorem d_M_variable_12 : decode b_M_variable 12 = .ok (.invokevirtual 92, 3) := by decide +kernel
theorem d_M_variable_15 : decode b_M_variable 15 = .ok (.ifCond .ne 5, 3) := by decide +kernel
theorem d_M_variable_18 : decode b_M_variable 18 = .ok (.iconst (-1), 1) := by decide +kernel
theorem d_M_variable_19 : decode b_M_variable 19 = .ok (.ireturn, 1) := by decide +kernel
theorem d_M_variable_20 : decode b_M_variable 20 = .ok (.aload_n 0, 1) := by decide +kernel
theorem d_M_variable_21 : decode b_M_variable 21 = .ok (.iconst 0, 1) := by decide +kernel
theorem d_M_variable_22 : decode b_M_variable 22 = .ok (.putfield 65, 3) := by decide +kernel
theorem d_M_variable_25 : decode b_M_variable 25 = .ok (.aload_n 0, 1) := by decide +kernel
theorem d_M_variable_26 : decode b_M_variable 26 = .ok (.bipush 64, 2) := by decide +kernel
theorem d_M_variable_28 : decode b_M_variable 28 = .ok (.bipush 16, 2) := by decide +kernel
theorem d_M_variable_30 : decode b_M_variable 30 = .ok (.iload_n 1, 1) := by decide +kernel
theorem d_M_variable_31 : decode b_M_variable 31 = .ok (.imul, 1) := by decide +kernel
theorem d_M_variable_32 : decode b_M_variable 32 = .ok (.iadd, 1) := by decide +kernel
theorem d_M_variable_33 : decode b_M_variable 33 = .ok (.iload_n 2, 1) := by decide +kernel
theorem d_M_variable_34 : decode b_M_variable 34 = .ok (.iadd, 1) := by decide +kernel
theorem d_M_variable_35 : decode b_M_variable 35 = .ok (.invokevirtual 68, 3) := by decide +kernel
theorem d_M_variable_38 : decode b_M_variable 38 = .ok (.aload_n 0, 1) := by decide +kernel
theorem d_M_variable_39 : decode b_M_variable 39 = .ok (.invokevirtual 95, 3) := by decide +kernel
theorem d_M_variable_42 : decode b_M_variable 42 = .ok (.ireturn, 1) := by decide +kernel
theorem d_M_constant_0 : decode b_M_constant 0 = .ok (.iload_n 1, 1) := by decide +kernel
theorem d_M_constant_1 : decode b_M_constant 1 = .ok (.ifCond .lt 16, 3) := by decide +kernel
theorem d_M_constant_4 : decode b_M_constant 4 = .ok (.iload_n 1, 1) := by decide +kernel
theorem d_M_constant_5 : decode b_M_constant 5 = .ok (.iconst 3, 1) := by decide +kernel
theorem d_M_constant_6 : decode b_M_constant 6 = .ok (.if_icmp .gt 11, 3) := by decide +kernel
theorem d_M_constant_9 : decode b_M_constant 9 = .ok (.aload_n 0, 1) := by decide +kernel
theorem d_M_constant_10 : decode b_M_constant 10 = .ok (.iload_n 2, 1) := by decide +kernel
theorem d_M_constant_11 : decode b_M_constant 11 = .ok (.invokevirtual 92, 3) := by decide +kernel
theorem d_M_constant_14 : decode b_M_constant 14 = .ok (.ifCond .ne 5, 3) := by decide +kernel
theorem d_M_constant_17 : decode b_M_constant 17 = .ok (.iconst (-1), 1) := by decide +kernel
theorem d_M_constant_18 : decode b_M_constant 18 = .ok (.ireturn, 1) := by decide +kernel
theorem d_M_constant_19 : decode b_M_constant 19 = .ok (.aload_n 0, 1) := by decide +kernel
theorem d_M_constant_20 : decode b_M_constant 20 = .ok (.getfield 32, 3) := by decide +kernel
theorem d_M_constant_23 : decode b_M_constant 23 = .ok (.iload_n 1, 1) := by decide +kernel
theorem d_M_constant_24 : decode b_M_constant 24 = .ok (.iaload, 1) := by decide +kernel
theorem d_M_constant_25 : decode b_M_constant 25 = .ok (.istore_n 3, 1) := by decide +kernel
theorem d_M_constant_26 : decode b_M_constant 26 = .ok (.iload_n 3, 1) := by decide +kernel
theorem d_M_constant_27 : decode b_M_constant 27 = .ok (.ifCond .le 13, 3) := by decide +kernel
theorem d_M_constant_30 : decode b_M_constant 30 = .ok (.iload_n 3, 1) := by decide +kernel
theorem d_M_constant_31 : decode b_M_constant 31 = .ok (.iload_n 2, 1) := by decide +kernel
theorem d_M_constant_32 : decode b_M_constant 32 = .ok (.iconst 1, 1) := by decide +kernel
theorem d_M_constant_33 : decode b_M_constant 33 = .ok (.iadd, 1) := by decide +kernel
theorem d_M_constant_34 : decode b_M_constant 34 = .ok (.if_icmp .eq 6, 3) := by decide +kernel
theorem d_M_constant_37 : decode b_M_constant 37 = .ok (.bipush (-2), 2) := by decide +kernel
theorem d_M_constant_39 : decode b_M_constant 39 = .ok (.ireturn, 1) := by decide +kernel
theorem d_M_constant_40 : decode b_M_constant 40 = .ok (.aload_n 0, 1) := by decide +kernel
theorem d_M_constant_41 : decode b_M_constant 41 = .ok (.getfield 32, 3) := by decide +kernel
theorem d_M_constant_44 : decode b_M_constant 44 = .ok (.iload_n 1, 1) := by decide +kernel
theorem d_M_constant_45 : decode b_M_constant 45 = .ok (.iload_n 2, 1) := by decide +kernel
theorem d_M_constant_46 : decode b_M_constant 46 = .ok (.iconst 1, 1) := by decide +kernel
theorem d_M_constant_47 : decode b_M_constant 47 = .ok (.iadd, 1) := by decide +kernel
theorem d_M_constant_48 : decode b_M_constant 48 = .ok (.iastore, 1) := by decide +kernel
theorem d_M_constant_49 : decode b_M_constant 49 = .ok (.aload_n 0, 1) := by decide +kernel
theorem d_M_constant_50 : decode b_M_constant 50 = .ok (.iconst 0, 1) := by decide +kernel
theorem d_M_constant_51 : decode b_M_constant 51 = .ok (.putfield 65, 3) := by decide +kernel
theorem d_M_constant_54 : decode b_M_constant 54 = .ok (.aload_n 0, 1) := by decide +kernel
theorem d_M_constant_55 : decode b_M_constant 55 = .ok (.sipush 240, 3) := by decide +kernel
theorem d_M_constant_58 : decode b_M_constant 58 = .ok (.iload_n 1, 1) := by decide +kernel
theorem d_M_constant_59 : decode b_M_constant 59 = .ok (.iadd, 1) := by decide +kernel
theorem d_M_constant_60 : decode b_M_constant 60 = .ok (.invokevirtual 68, 3) := by decide +kernel
theorem d_M_constant_63 : decode b_M_constant 63 = .ok (.aload_n 0, 1) := by decide +kernel
theorem d_M_constant_64 : decode b_M_constant 64 = .ok (.invokevirtual 95, 3) := by decide +kernel
theorem d_M_constant_67 : decode b_M_constant 67 = .ok (.istore 4, 2) := by decide +kernel
theorem d_M_constant_69 : decode b_M_constant 69 = .ok (.aload_n 0, 1) := by decide +kernel
theorem d_M_constant_70 : decode b_M_constant 70 = .ok (.getfield 32, 3) := by decide +kernel
theorem d_M_constant_73 : decode b_M_constant 73 = .ok (.iload_n 1, 1) := by decide +kernel
theorem d_M_constant_74 : decode b_M_constant 74 = .ok (.iload 4, 2) := by decide +kernel
theorem d_M_constant_76 : decode b_M_constant 76 = .ok (.ifCond .ge 7, 3) := by decide +kernel
theorem d_M_constant_79 : decode b_M_constant 79 = .ok (.iload_n 3, 1) := by decide +kernel
theorem d_M_constant_80 : decode b_M_constant 80 = .ok (.goto 6, 3) := by decide +kernel
theorem d_M_constant_83 : decode b_M_constant 83 = .ok (.iload_n 2, 1) := by decide +kernel
theorem d_M_constant_84 : decode b_M_constant 84 = .ok (.iconst 1, 1) := by decide +kernel
theorem d_M_constant_85 : decode b_M_constant 85 = .ok (.iadd, 1) := by decide +kernel
theorem d_M_constant_86 : decode b_M_constant 86 = .ok (.iastore, 1) := by decide +kernel
theorem d_M_constant_87 : decode b_M_constant 87 = .ok (.iload 4, 2) := by decide +kernel
theorem d_M_constant_89 : decode b_M_constant 89 = .ok (.ireturn, 1) := by decide +kernel
theorem d_M_fits_0 : decode b_M_fits 0 = .ok (.iload_n 1, 1) := by decide +kernel
theorem d_M_fits_1 : decode b_M_fits 1 = .ok (.iconst 2, 1) := by decide +kernel
theorem d_M_fits_2 : decode b_M_fits 2 = .ok (.if_icmp .le 17, 3) := by decide +kernel
theorem d_M_fits_5 : decode b_M_fits 5 = .ok (.aload_n 0, 1) := by decide +kernel
theorem d_M_fits_6 : decode b_M_fits 6 = .ok (.getfield 26, 3) := by decide +kernel
theorem d_M_fits_9 : decode b_M_fits 9 = .ok (.iload_n 1, 1) := by decide +kernel
theorem d_M_fits_10 : decode b_M_fits 10 = .ok (.iaload, 1) := by decide +kernel
theorem d_M_fits_11 : decode b_M_fits 11 = .ok (.iload_n 2, 1) := by decide +kernel
theorem d_M_fits_12 : decode b_M_fits 12 = .ok (.if_icmp .ne 7, 3) := by decide +kernel
theorem d_M_fits_15 : decode b_M_fits 15 = .ok (.iconst 1, 1) := by decide +kernel
theorem d_M_fits_16 : decode b_M_fits 16 = .ok (.goto 4, 3) := by decide +kernel
theorem d_M_fits_19 : decode b_M_fits 19 = .ok (.iconst 0, 1) := by decide +kernel
theorem d_M_fits_20 : decode b_M_fits 20 = .ok (.ireturn, 1) := by decide +kernel
theorem d_M_apply_0 : decode b_M_apply 0 = .ok (.aload_n 0, 1) := by decide +kernel
theorem d_M_apply_1 : decode b_M_apply 1 = .ok (.iload_n 1, 1) := by decide +kernel
theorem d_M_apply_2 : decode b_M_apply 2 = .ok (.invokevirtual 99, 3) := by decide +kernel
theorem d_M_apply_5 : decode b_M_apply 5 = .ok (.ifCond .eq 11, 3) := by decide +kernel
theorem d_M_apply_8 : decode b_M_apply 8 = .ok (.aload_n 0, 1) := by decide +kernel
theorem d_M_apply_9 : decode b_M_apply 9 = .ok (.iload_n 2, 1) := by decide +kernel
theorem d_M_apply_10 : decode b_M_apply 10 = .ok (.invokevirtual 99, 3) := by decide +kernel
theorem d_M_apply_13 : decode b_M_apply 13 = .ok (.ifCond .ne 5, 3) := by decide +kernel
theorem d_M_apply_16 : decode b_M_apply 16 = .ok (.iconst (-1), 1) := by decide +kernel
theorem d_M_apply_17 : decode b_M_apply 17 = .ok (.ireturn, 1) := by decide +kernel
theorem d_M_apply_18 : decode b_M_apply 18 = .ok (.aload_n 0, 1) := by decide +kernel
theorem d_M_apply_19 : decode b_M_apply 19 = .ok (.aload_n 0, 1) := by decide +kernel
theorem d_M_apply_20 : decode b_M_apply 20 = .ok (.getfield 16, 3) := by decide +kernel
theorem d_M_apply_23 : decode b_M_apply 23 = .ok (.iload_n 1, 1) := by decide +kernel
theorem d_M_apply_24 : decode b_M_apply 24 = .ok (.iaload, 1) := by decide +kernel
theorem d_M_apply_25 : decode b_M_apply 25 = .ok (.aload_n 0, 1) := by decide +kernel
theorem d_M_apply_26 : decode b_M_apply 26 = .ok (.getfield 16, 3) := by decide +kernel
theorem d_M_apply_29 : decode b_M_apply 29 = .ok (.iload_n 2, 1) := by decide +kernel
theorem d_M_apply_30 : decode b_M_apply 30 = .ok (.iaload, 1) := by decide +kernel
theorem d_M_apply_31 : decode b_M_apply 31 = .ok (.invokevirtual 102, 3) := by decide +kernel
theorem d_M_apply_34 : decode b_M_apply 34 = .ok (.ifCond .ne 6, 3) := by decide +kernel
theorem d_M_apply_37 : decode b_M_apply 37 = .ok (.bipush (-2), 2) := by decide +kernel
theorem d_M_apply_39 : decode b_M_apply 39 = .ok (.ireturn, 1) := by decide +kernel
theorem d_M_apply_40 : decode b_M_apply 40 = .ok (.aload_n 0, 1) := by decide +kernel
theorem d_M_apply_41 : decode b_M_apply 41 = .ok (.iconst 0, 1) := by decide +kernel
theorem d_M_apply_42 : decode b_M_apply 42 = .ok (.putfield 65, 3) := by decide +kernel
theorem d_M_apply_45 : decode b_M_apply 45 = .ok (.aload_n 0, 1) := by decide +kernel
theorem d_M_apply_46 : decode b_M_apply 46 = .ok (.iconst 1, 1) := by decide +kernel
theorem d_M_apply_47 : decode b_M_apply 47 = .ok (.invokevirtual 68, 3) := by decide +kernel
theorem d_M_apply_50 : decode b_M_apply 50 = .ok (.aload_n 0, 1) := by decide +kernel
theorem d_M_apply_51 : decode b_M_apply 51 = .ok (.bipush 32, 2) := by decide +kernel
theorem d_M_apply_53 : decode b_M_apply 53 = .ok (.iload_n 1, 1) := by decide +kernel
theorem d_M_apply_54 : decode b_M_apply 54 = .ok (.imul, 1) := by decide +kernel
theorem d_M_apply_55 : decode b_M_apply 55 = .ok (.invokevirtual 72, 3) := by decide +kernel
theorem d_M_apply_58 : decode b_M_apply 58 = .ok (.aload_n 0, 1) := by decide +kernel
theorem d_M_apply_59 : decode b_M_apply 59 = .ok (.bipush 32, 2) := by decide +kernel
theorem d_M_apply_61 : decode b_M_apply 61 = .ok (.iload_n 2, 1) := by decide +kernel
theorem d_M_apply_62 : decode b_M_apply 62 = .ok (.imul, 1) := by decide +kernel
theorem d_M_apply_63 : decode b_M_apply 63 = .ok (.invokevirtual 72, 3) := by decide +kernel
theorem d_M_apply_66 : decode b_M_apply 66 = .ok (.aload_n 0, 1) := by decide +kernel
theorem d_M_apply_67 : decode b_M_apply 67 = .ok (.invokevirtual 95, 3) := by decide +kernel
theorem d_M_apply_70 : decode b_M_apply 70 = .ok (.ireturn, 1) := by decide +kernel
theorem d_M_bind_0 : decode b_M_bind 0 = .ok (.aload_n 0, 1) := by decide +kernel
theorem d_M_bind_1 : decode b_M_bind 1 = .ok (.iload_n 2, 1) := by decide +kernel
theorem d_M_bind_2 : decode b_M_bind 2 = .ok (.invokevirtual 99, 3) := by decide +kernel
theorem d_M_bind_5 : decode b_M_bind 5 = .ok (.ifCond .eq 11, 3) := by decide +kernel
theorem d_M_bind_8 : decode b_M_bind 8 = .ok (.aload_n 0, 1) := by decide +kernel
theorem d_M_bind_9 : decode b_M_bind 9 = .ok (.iload_n 3, 1) := by decide +kernel
theorem d_M_bind_10 : decode b_M_bind 10 = .ok (.invokevirtual 99, 3) := by decide +kernel
theorem d_M_bind_13 : decode b_M_bind 13 = .ok (.ifCond .ne 5, 3) := by decide +kernel
theorem d_M_bind_16 : decode b_M_bind 16 = .ok (.iconst (-1), 1) := by decide +kernel
theorem d_M_bind_17 : decode b_M_bind 17 = .ok (.ireturn, 1) := by decide +kernel
theorem d_M_bind_18 : decode b_M_bind 18 = .ok (.aload_n 0, 1) := by decide +kernel
theorem d_M_bind_19 : decode b_M_bind 19 = .ok (.iload_n 2, 1) := by decide +kernel
theorem d_M_bind_20 : decode b_M_bind 20 = .ok (.invokevirtual 105, 3) := by decide +kernel
theorem d_M_bind_23 : decode b_M_bind 23 = .ok (.ifCond .eq 16, 3) := by decide +kernel
theorem d_M_bind_26 : decode b_M_bind 26 = .ok (.iload_n 1, 1) := by decide +kernel
theorem d_M_bind_27 : decode b_M_bind 27 = .ok (.ifCond .eq 15, 3) := by decide +kernel
theorem d_M_bind_30 : decode b_M_bind 30 = .ok (.aload_n 0, 1) := by decide +kernel
theorem d_M_bind_31 : decode b_M_bind 31 = .ok (.getfield 16, 3) := by decide +kernel
theorem d_M_bind_34 : decode b_M_bind 34 = .ok (.iload_n 3, 1) := by decide +kernel
theorem d_M_bind_35 : decode b_M_bind 35 = .ok (.iaload, 1) := by decide +kernel
theorem d_M_bind_36 : decode b_M_bind 36 = .ok (.ifCond .eq 6, 3) := by decide +kernel
theorem d_M_bind_39 : decode b_M_bind 39 = .ok (.bipush (-2), 2) := by decide +kernel
theorem d_M_bind_41 : decode b_M_bind 41 = .ok (.ireturn, 1) := by decide +kernel
theorem d_M_bind_42 : decode b_M_bind 42 = .ok (.aload_n 0, 1) := by decide +kernel
theorem d_M_bind_43 : decode b_M_bind 43 = .ok (.getfield 22, 3) := by decide +kernel
theorem d_M_bind_46 : decode b_M_bind 46 = .ok (.istore 4, 2) := by decide +kernel
theorem d_M_bind_48 : decode b_M_bind 48 = .ok (.iload_n 1, 1) := by decide +kernel
theorem d_M_bind_49 : decode b_M_bind 49 = .ok (.ifCond .ne 25, 3) := by decide +kernel
theorem d_M_bind_52 : decode b_M_bind 52 = .ok (.aload_n 0, 1) := by decide +kernel
theorem d_M_bind_53 : decode b_M_bind 53 = .ok (.aload_n 0, 1) := by decide +kernel
theorem d_M_bind_54 : decode b_M_bind 54 = .ok (.getfield 16, 3) := by decide +kernel
theorem d_M_bind_57 : decode b_M_bind 57 = .ok (.iload_n 2, 1) := by decide +kernel
theorem d_M_bind_58 : decode b_M_bind 58 = .ok (.iaload, 1) := by decide +kernel
theorem d_M_bind_59 : decode b_M_bind 59 = .ok (.aload_n 0, 1) := by decide +kernel
theorem d_M_bind_60 : decode b_M_bind 60 = .ok (.getfield 16, 3) := by decide +kernel
theorem d_M_bind_63 : decode b_M_bind 63 = .ok (.iload_n 3, 1) := by decide +kernel
theorem d_M_bind_64 : decode b_M_bind 64 = .ok (.iaload, 1) := by decide +kernel
theorem d_M_bind_65 : decode b_M_bind 65 = .ok (.invokevirtual 108, 3) := by decide +kernel
theorem d_M_bind_68 : decode b_M_bind 68 = .ok (.ifCond .ge 6, 3) := by decide +kernel
theorem d_M_bind_71 : decode b_M_bind 71 = .ok (.bipush (-4), 2) := by decide +kernel
theorem d_M_bind_73 : decode b_M_bind 73 = .ok (.ireturn, 1) := by decide +kernel
theorem d_M_bind_74 : decode b_M_bind 74 = .ok (.aload_n 0, 1) := by decide +kernel
theorem d_M_bind_75 : decode b_M_bind 75 = .ok (.iconst 0, 1) := by decide +kernel
theorem d_M_bind_76 : decode b_M_bind 76 = .ok (.putfield 65, 3) := by decide +kernel
theorem d_M_bind_79 : decode b_M_bind 79 = .ok (.aload_n 0, 1) := by decide +kernel
theorem d_M_bind_80 : decode b_M_bind 80 = .ok (.iload_n 1, 1) := by decide +kernel
theorem d_M_bind_81 : decode b_M_bind 81 = .ok (.ifCond .eq 8, 3) := by decide +kernel
theorem d_M_bind_84 : decode b_M_bind 84 = .ok (.bipush 32, 2) := by decide +kernel
theorem d_M_bind_86 : decode b_M_bind 86 = .ok (.goto 5, 3) := by decide +kernel
theorem d_M_bind_89 : decode b_M_bind 89 = .ok (.bipush 16, 2) := by decide +kernel
theorem d_M_bind_91 : decode b_M_bind 91 = .ok (.aload_n 0, 1) := by decide +kernel
theorem d_M_bind_92 : decode b_M_bind 92 = .ok (.getfield 16, 3) := by decide +kernel
theorem d_M_bind_95 : decode b_M_bind 95 = .ok (.iload_n 2, 1) := by decide +kernel
theorem d_M_bind_96 : decode b_M_bind 96 = .ok (.iaload, 1) := by decide +kernel
theorem d_M_bind_97 : decode b_M_bind 97 = .ok (.iadd, 1) := by decide +kernel
theorem d_M_bind_98 : decode b_M_bind 98 = .ok (.invokevirtual 68, 3) := by decide +kernel
theorem d_M_bind_101 : decode b_M_bind 101 = .ok (.aload_n 0, 1) := by decide +kernel
theorem d_M_bind_102 : decode b_M_bind 102 = .ok (.bipush 32, 2) := by decide +kernel
theorem d_M_bind_104 : decode b_M_bind 104 = .ok (.iload_n 3, 1) := by decide +kernel
theorem d_M_bind_105 : decode b_M_bind 105 = .ok (.imul, 1) := by decide +kernel
theorem d_M_bind_106 : decode b_M_bind 106 = .ok (.aload_n 0, 1) := by decide +kernel
theorem d_M_bind_107 : decode b_M_bind 107 = .ok (.getfield 7, 3) := by decide +kernel
theorem d_M_bind_110 : decode b_M_bind 110 = .ok (.bipush 32, 2) := by decide +kernel
theorem d_M_bind_112 : decode b_M_bind 112 = .ok (.iload_n 2, 1) := by decide +kernel
theorem d_M_bind_113 : decode b_M_bind 113 = .ok (.imul, 1) := by decide +kernel
theorem d_M_bind_114 : decode b_M_bind 114 = .ok (.iaload, 1) := by decide +kernel
theorem d_M_bind_115 : decode b_M_bind 115 = .ok (.iconst (-1), 1) := by decide +kernel
theorem d_M_bind_116 : decode b_M_bind 116 = .ok (.invokevirtual 111, 3) := by decide +kernel
theorem d_M_bind_119 : decode b_M_bind 119 = .ok (.aload_n 0, 1) := by decide +kernel
theorem d_M_bind_120 : decode b_M_bind 120 = .ok (.invokevirtual 95, 3) := by decide +kernel
theorem d_M_bind_123 : decode b_M_bind 123 = .ok (.istore 5, 2) := by decide +kernel
theorem d_M_bind_125 : decode b_M_bind 125 = .ok (.aload_n 0, 1) := by decide +kernel
theorem d_M_bind_126 : decode b_M_bind 126 = .ok (.iload 5, 2) := by decide +kernel
theorem d_M_bind_128 : decode b_M_bind 128 = .ok (.ifCond .ge 8, 3) := by decide +kernel
theorem d_M_bind_131 : decode b_M_bind 131 = .ok (.iload 4, 2) := by decide +kernel
theorem d_M_bind_133 : decode b_M_bind 133 = .ok (.goto 7, 3) := by decide +kernel
theorem d_M_bind_136 : decode b_M_bind 136 = .ok (.aload_n 0, 1) := by decide +kernel
theorem d_M_bind_137 : decode b_M_bind 137 = .ok (.getfield 22, 3) := by decide +kernel
theorem d_M_bind_140 : decode b_M_bind 140 = .ok (.putfield 22, 3) := by decide +kernel
theorem d_M_bind_143 : decode b_M_bind 143 = .ok (.iload 5, 2) := by decide +kernel
theorem d_M_bind_145 : decode b_M_bind 145 = .ok (.ireturn, 1) := by decide +kernel
theorem d_M_join_0 : decode b_M_join 0 = .ok (.aload_n 0, 1) := by decide +kernel
theorem d_M_join_1 : decode b_M_join 1 = .ok (.iload_n 2, 1) := by decide +kernel
theorem d_M_join_2 : decode b_M_join 2 = .ok (.invokevirtual 99, 3) := by decide +kernel
theorem d_M_join_5 : decode b_M_join 5 = .ok (.ifCond .eq 11, 3) := by decide +kernel
theorem d_M_join_8 : decode b_M_join 8 = .ok (.aload_n 0, 1) := by decide +kernel
theorem d_M_join_9 : decode b_M_join 9 = .ok (.iload_n 3, 1) := by decide +kernel
theorem d_M_join_10 : decode b_M_join 10 = .ok (.invokevirtual 99, 3) := by decide +kernel
theorem d_M_join_13 : decode b_M_join 13 = .ok (.ifCond .ne 5, 3) := by decide +kernel
theorem d_M_join_16 : decode b_M_join 16 = .ok (.iconst (-1), 1) := by decide +kernel
theorem d_M_join_17 : decode b_M_join 17 = .ok (.ireturn, 1) := by decide +kernel
theorem d_M_join_18 : decode b_M_join 18 = .ok (.aload_n 0, 1) := by decide +kernel
theorem d_M_join_19 : decode b_M_join 19 = .ok (.getfield 16, 3) := by decide +kernel
theorem d_M_join_22 : decode b_M_join 22 = .ok (.iload_n 2, 1) := by decide +kernel
theorem d_M_join_23 : decode b_M_join 23 = .ok (.iaload, 1) := by decide +kernel
theorem d_M_join_24 : decode b_M_join 24 = .ok (.aload_n 0, 1) := by decide +kernel
theorem d_M_join_25 : decode b_M_join 25 = .ok (.getfield 16, 3) := by decide +kernel
theorem d_M_join_28 : decode b_M_join 28 = .ok (.iload_n 3, 1) := by decide +kernel
theorem d_M_join_29 : decode b_M_join 29 = .ok (.iaload, 1) := by decide +kernel
theorem d_M_join_30 : decode b_M_join 30 = .ok (.if_icmp .ne 16, 3) := by decide +kernel
theorem d_M_join_33 : decode b_M_join 33 = .ok (.iload_n 1, 1) := by decide +kernel
theorem d_M_join_34 : decode b_M_join 34 = .ok (.ifCond .ne 15, 3) := by decide +kernel
theorem d_M_join_37 : decode b_M_join 37 = .ok (.aload_n 0, 1) := by decide +kernel
theorem d_M_join_38 : decode b_M_join 38 = .ok (.getfield 16, 3) := by decide +kernel
theorem d_M_join_41 : decode b_M_join 41 = .ok (.iload_n 2, 1) := by decide +kernel
theorem d_M_join_42 : decode b_M_join 42 = .ok (.iaload, 1) := by decide +kernel
theorem d_M_join_43 : decode b_M_join 43 = .ok (.ifCond .eq 6, 3) := by decide +kernel
theorem d_M_join_46 : decode b_M_join 46 = .ok (.bipush (-2), 2) := by decide +kernel
theorem d_M_join_48 : decode b_M_join 48 = .ok (.ireturn, 1) := by decide +kernel
theorem d_M_join_49 : decode b_M_join 49 = .ok (.aload_n 0, 1) := by decide +kernel
theorem d_M_join_50 : decode b_M_join 50 = .ok (.iconst 0, 1) := by decide +kernel
theorem d_M_join_51 : decode b_M_join 51 = .ok (.putfield 65, 3) := by decide +kernel
theorem d_M_join_54 : decode b_M_join 54 = .ok (.aload_n 0, 1) := by decide +kernel
theorem d_M_join_55 : decode b_M_join 55 = .ok (.iload_n 1, 1) := by decide +kernel
theorem d_M_join_56 : decode b_M_join 56 = .ok (.ifCond .eq 7, 3) := by decide +kernel
theorem d_M_join_59 : decode b_M_join 59 = .ok (.iconst 3, 1) := by decide +kernel
theorem d_M_join_60 : decode b_M_join 60 = .ok (.goto 4, 3) := by decide +kernel
theorem d_M_join_63 : decode b_M_join 63 = .ok (.iconst 2, 1) := by decide +kernel
theorem d_M_join_64 : decode b_M_join 64 = .ok (.invokevirtual 68, 3) := by decide +kernel
theorem d_M_join_67 : decode b_M_join 67 = .ok (.aload_n 0, 1) := by decide +kernel
theorem d_M_join_68 : decode b_M_join 68 = .ok (.bipush 32, 2) := by decide +kernel
theorem d_M_join_70 : decode b_M_join 70 = .ok (.iload_n 2, 1) := by decide +kernel
theorem d_M_join_71 : decode b_M_join 71 = .ok (.imul, 1) := by decide +kernel
theorem d_M_join_72 : decode b_M_join 72 = .ok (.invokevirtual 72, 3) := by decide +kernel
theorem d_M_join_75 : decode b_M_join 75 = .ok (.aload_n 0, 1) := by decide +kernel
theorem d_M_join_76 : decode b_M_join 76 = .ok (.bipush 32, 2) := by decide +kernel
theorem d_M_join_78 : decode b_M_join 78 = .ok (.iload_n 3, 1) := by decide +kernel
theorem d_M_join_79 : decode b_M_join 79 = .ok (.imul, 1) := by decide +kernel
theorem d_M_join_80 : decode b_M_join 80 = .ok (.invokevirtual 72, 3) := by decide +kernel
theorem d_M_join_83 : decode b_M_join 83 = .ok (.aload_n 0, 1) := by decide +kernel
theorem d_M_join_84 : decode b_M_join 84 = .ok (.invokevirtual 95, 3) := by decide +kernel
theorem d_M_join_87 : decode b_M_join 87 = .ok (.ireturn, 1) := by decide +kernel
theorem d_M_isTheorem_0 : decode b_M_isTheorem 0 = .ok (.iload_n 1, 1) := by decide +kernel
theorem d_M_isTheorem_1 : decode b_M_isTheorem 1 = .ok (.ifCond .lt 15, 3) := by decide +kernel
theorem d_M_isTheorem_4 : decode b_M_isTheorem 4 = .ok (.iload_n 1, 1) := by decide +kernel
theorem d_M_isTheorem_5 : decode b_M_isTheorem 5 = .ok (.aload_n 0, 1) := by decide +kernel
theorem d_M_isTheorem_6 : decode b_M_isTheorem 6 = .ok (.getfield 115, 3) := by decide +kernel
theorem d_M_isTheorem_9 : decode b_M_isTheorem 9 = .ok (.if_icmp .ge 7, 3) := by decide +kernel
theorem d_M_isTheorem_12 : decode b_M_isTheorem 12 = .ok (.iconst 1, 1) := by decide +kernel
theorem d_M_isTheorem_13 : decode b_M_isTheorem 13 = .ok (.goto 4, 3) := by decide +kernel
theorem d_M_isTheorem_16 : decode b_M_isTheorem 16 = .ok (.iconst 0, 1) := by decide +kernel
theorem d_M_isTheorem_17 : decode b_M_isTheorem 17 = .ok (.ireturn, 1) := by decide +kernel
theorem d_M_isIn_0 : decode b_M_isIn 0 = .ok (.iconst 0, 1) := by decide +kernel
theorem d_M_isIn_1 : decode b_M_isIn 1 = .ok (.istore_n 3, 1) := by decide +kernel
theorem d_M_isIn_2 : decode b_M_isIn 2 = .ok (.iconst 0, 1) := by decide +kernel
theorem d_M_isIn_3 : decode b_M_isIn 3 = .ok (.istore 4, 2) := by decide +kernel
theorem d_M_isIn_5 : decode b_M_isIn 5 = .ok (.iload 4, 2) := by decide +kernel
theorem d_M_isIn_7 : decode b_M_isIn 7 = .ok (.aload_n 0, 1) := by decide +kernel
theorem d_M_isIn_8 : decode b_M_isIn 8 = .ok (.getfield 13, 3) := by decide +kernel
theorem d_M_isIn_11 : decode b_M_isIn 11 = .ok (.iload_n 2, 1) := by decide +kernel
theorem d_M_isIn_12 : decode b_M_isIn 12 = .ok (.iaload, 1) := by decide +kernel
theorem d_M_isIn_13 : decode b_M_isIn 13 = .ok (.if_icmp .ge 35, 3) := by decide +kernel
theorem d_M_isIn_16 : decode b_M_isIn 16 = .ok (.iload_n 3, 1) := by decide +kernel
theorem d_M_isIn_17 : decode b_M_isIn 17 = .ok (.ifCond .ne 19, 3) := by decide +kernel
theorem d_M_isIn_20 : decode b_M_isIn 20 = .ok (.aload_n 0, 1) := by decide +kernel
theorem d_M_isIn_21 : decode b_M_isIn 21 = .ok (.getfield 7, 3) := by decide +kernel
theorem d_M_isIn_24 : decode b_M_isIn 24 = .ok (.bipush 32, 2) := by decide +kernel
theorem d_M_isIn_26 : decode b_M_isIn 26 = .ok (.iload_n 2, 1) := by decide +kernel
theorem d_M_isIn_27 : decode b_M_isIn 27 = .ok (.imul, 1) := by decide +kernel
theorem d_M_isIn_28 : decode b_M_isIn 28 = .ok (.iload 4, 2) := by decide +kernel
theorem d_M_isIn_30 : decode b_M_isIn 30 = .ok (.iadd, 1) := by decide +kernel
theorem d_M_isIn_31 : decode b_M_isIn 31 = .ok (.iaload, 1) := by decide +kernel
theorem d_M_isIn_32 : decode b_M_isIn 32 = .ok (.iload_n 1, 1) := by decide +kernel
theorem d_M_isIn_33 : decode b_M_isIn 33 = .ok (.if_icmp .ne 7, 3) := by decide +kernel
theorem d_M_isIn_36 : decode b_M_isIn 36 = .ok (.iconst 1, 1) := by decide +kernel
theorem d_M_isIn_37 : decode b_M_isIn 37 = .ok (.goto 4, 3) := by decide +kernel
theorem d_M_isIn_40 : decode b_M_isIn 40 = .ok (.iconst 0, 1) := by decide +kernel
theorem d_M_isIn_41 : decode b_M_isIn 41 = .ok (.istore_n 3, 1) := by decide +kernel
theorem d_M_isIn_42 : decode b_M_isIn 42 = .ok (.iinc 4 1, 3) := by decide +kernel
theorem d_M_isIn_45 : decode b_M_isIn 45 = .ok (.goto (-40), 3) := by decide +kernel
theorem d_M_isIn_48 : decode b_M_isIn 48 = .ok (.iload_n 3, 1) := by decide +kernel
theorem d_M_isIn_49 : decode b_M_isIn 49 = .ok (.ireturn, 1) := by decide +kernel
theorem d_M_freeInSet_0 : decode b_M_freeInSet 0 = .ok (.iconst 0, 1) := by decide +kernel
theorem d_M_freeInSet_1 : decode b_M_freeInSet 1 = .ok (.istore_n 2, 1) := by decide +kernel
theorem d_M_freeInSet_2 : decode b_M_freeInSet 2 = .ok (.iconst 0, 1) := by decide +kernel
theorem d_M_freeInSet_3 : decode b_M_freeInSet 3 = .ok (.istore_n 3, 1) := by decide +kernel
theorem d_M_freeInSet_4 : decode b_M_freeInSet 4 = .ok (.iload_n 3, 1) := by decide +kernel
theorem d_M_freeInSet_5 : decode b_M_freeInSet 5 = .ok (.aload_n 0, 1) := by decide +kernel
theorem d_M_freeInSet_6 : decode b_M_freeInSet 6 = .ok (.getfield 78, 3) := by decide +kernel
theorem d_M_freeInSet_9 : decode b_M_freeInSet 9 = .ok (.if_icmp .ge 41, 3) := by decide +kernel
theorem d_M_freeInSet_12 : decode b_M_freeInSet 12 = .ok (.iload_n 2, 1) := by decide +kernel
theorem d_M_freeInSet_13 : decode b_M_freeInSet 13 = .ok (.ifCond .ne 25, 3) := by decide +kernel
theorem d_M_freeInSet_16 : decode b_M_freeInSet 16 = .ok (.aload_n 0, 1) := by decide +kernel
theorem d_M_freeInSet_17 : decode b_M_freeInSet 17 = .ok (.getfield 118, 3) := by decide +kernel
theorem d_M_freeInSet_20 : decode b_M_freeInSet 20 = .ok (.iload_n 3, 1) := by decide +kernel
theorem d_M_freeInSet_21 : decode b_M_freeInSet 21 = .ok (.lshr, 1) := by decide +kernel
theorem d_M_freeInSet_22 : decode b_M_freeInSet 22 = .ok (.lconst 1, 1) := by decide +kernel
theorem d_M_freeInSet_23 : decode b_M_freeInSet 23 = .ok (.land, 1) := by decide +kernel
theorem d_M_freeInSet_24 : decode b_M_freeInSet 24 = .ok (.lconst 1, 1) := by decide +kernel
theorem d_M_freeInSet_25 : decode b_M_freeInSet 25 = .ok (.lcmp, 1) := by decide +kernel
theorem d_M_freeInSet_26 : decode b_M_freeInSet 26 = .ok (.ifCond .ne 16, 3) := by decide +kernel
theorem d_M_freeInSet_29 : decode b_M_freeInSet 29 = .ok (.aload_n 0, 1) := by decide +kernel
theorem d_M_freeInSet_30 : decode b_M_freeInSet 30 = .ok (.iload_n 1, 1) := by decide +kernel
theorem d_M_freeInSet_31 : decode b_M_freeInSet 31 = .ok (.iload_n 3, 1) := by decide +kernel
theorem d_M_freeInSet_32 : decode b_M_freeInSet 32 = .ok (.invokevirtual 122, 3) := by decide +kernel
theorem d_M_freeInSet_35 : decode b_M_freeInSet 35 = .ok (.ifCond .eq 7, 3) := by decide +kernel
theorem d_M_freeInSet_38 : decode b_M_freeInSet 38 = .ok (.iconst 1, 1) := by decide +kernel
theorem d_M_freeInSet_39 : decode b_M_freeInSet 39 = .ok (.goto 4, 3) := by decide +kernel
theorem d_M_freeInSet_42 : decode b_M_freeInSet 42 = .ok (.iconst 0, 1) := by decide +kernel
theorem d_M_freeInSet_43 : decode b_M_freeInSet 43 = .ok (.istore_n 2, 1) := by decide +kernel
theorem d_M_freeInSet_44 : decode b_M_freeInSet 44 = .ok (.iinc 3 1, 3) := by decide +kernel
theorem d_M_freeInSet_47 : decode b_M_freeInSet 47 = .ok (.goto (-43), 3) := by decide +kernel
theorem d_M_freeInSet_50 : decode b_M_freeInSet 50 = .ok (.iload_n 2, 1) := by decide +kernel
theorem d_M_freeInSet_51 : decode b_M_freeInSet 51 = .ok (.ireturn, 1) := by decide +kernel
theorem d_M_named_0 : decode b_M_named 0 = .ok (.iload_n 0, 1) := by decide +kernel
theorem d_M_named_1 : decode b_M_named 1 = .ok (.ifCond .eq 20, 3) := by decide +kernel
theorem d_M_named_4 : decode b_M_named 4 = .ok (.iload_n 0, 1) := by decide +kernel
theorem d_M_named_5 : decode b_M_named 5 = .ok (.iconst 1, 1) := by decide +kernel
theorem d_M_named_6 : decode b_M_named 6 = .ok (.if_icmp .eq 15, 3) := by decide +kernel
theorem d_M_named_9 : decode b_M_named 9 = .ok (.iload_n 0, 1) := by decide +kernel
theorem d_M_named_10 : decode b_M_named 10 = .ok (.bipush 6, 2) := by decide +kernel
theorem d_M_named_12 : decode b_M_named 12 = .ok (.if_icmp .eq 9, 3) := by decide +kernel
theorem d_M_named_15 : decode b_M_named 15 = .ok (.iload_n 0, 1) := by decide +kernel
theorem d_M_named_16 : decode b_M_named 16 = .ok (.bipush 11, 2) := by decide +kernel
theorem d_M_named_18 : decode b_M_named 18 = .ok (.if_icmp .ne 7, 3) := by decide +kernel
theorem d_M_named_21 : decode b_M_named 21 = .ok (.iconst 0, 1) := by decide +kernel
theorem d_M_named_22 : decode b_M_named 22 = .ok (.goto 31, 3) := by decide +kernel
theorem d_M_named_25 : decode b_M_named 25 = .ok (.iload_n 0, 1) := by decide +kernel
theorem d_M_named_26 : decode b_M_named 26 = .ok (.iconst 3, 1) := by decide +kernel
theorem d_M_named_27 : decode b_M_named 27 = .ok (.if_icmp .eq 21, 3) := by decide +kernel
theorem d_M_named_30 : decode b_M_named 30 = .ok (.iload_n 0, 1) := by decide +kernel
theorem d_M_named_31 : decode b_M_named 31 = .ok (.bipush 8, 2) := by decide +kernel
theorem d_M_named_33 : decode b_M_named 33 = .ok (.if_icmp .eq 15, 3) := by decide +kernel
theorem d_M_named_36 : decode b_M_named 36 = .ok (.iload_n 0, 1) := by decide +kernel
theorem d_M_named_37 : decode b_M_named 37 = .ok (.bipush 9, 2) := by decide +kernel
theorem d_M_named_39 : decode b_M_named 39 = .ok (.if_icmp .eq 9, 3) := by decide +kernel
theorem d_M_named_42 : decode b_M_named 42 = .ok (.iload_n 0, 1) := by decide +kernel
theorem d_M_named_43 : decode b_M_named 43 = .ok (.bipush 12, 2) := by decide +kernel
theorem d_M_named_45 : decode b_M_named 45 = .ok (.if_icmp .ne 7, 3) := by decide +kernel
theorem d_M_named_48 : decode b_M_named 48 = .ok (.iconst 2, 1) := by decide +kernel
theorem d_M_named_49 : decode b_M_named 49 = .ok (.goto 4, 3) := by decide +kernel
theorem d_M_named_52 : decode b_M_named 52 = .ok (.iconst 1, 1) := by decide +kernel
theorem d_M_named_53 : decode b_M_named 53 = .ok (.ireturn, 1) := by decide +kernel
theorem d_M_there_0 : decode b_M_there 0 = .ok (.iload_n 1, 1) := by decide +kernel
theorem d_M_there_1 : decode b_M_there 1 = .ok (.invokestatic 125, 3) := by decide +kernel
theorem d_M_there_4 : decode b_M_there 4 = .ok (.istore 4, 2) := by decide +kernel
theorem d_M_there_6 : decode b_M_there 6 = .ok (.iload 4, 2) := by decide +kernel
theorem d_M_there_8 : decode b_M_there 8 = .ok (.ifCond .ne 9, 3) := by decide +kernel
theorem d_M_there_11 : decode b_M_there 11 = .ok (.aload_n 0, 1) := by decide +kernel
theorem d_M_there_12 : decode b_M_there 12 = .ok (.iload_n 2, 1) := by decide +kernel
theorem d_M_there_13 : decode b_M_there 13 = .ok (.invokevirtual 99, 3) := by decide +kernel
theorem d_M_there_16 : decode b_M_there 16 = .ok (.ireturn, 1) := by decide +kernel
theorem d_M_there_17 : decode b_M_there 17 = .ok (.aload_n 0, 1) := by decide +kernel
theorem d_M_there_18 : decode b_M_there 18 = .ok (.iload_n 2, 1) := by decide +kernel
theorem d_M_there_19 : decode b_M_there 19 = .ok (.invokevirtual 128, 3) := by decide +kernel
theorem d_M_there_22 : decode b_M_there 22 = .ok (.ifCond .ne 5, 3) := by decide +kernel
theorem d_M_there_25 : decode b_M_there 25 = .ok (.iconst 0, 1) := by decide +kernel
theorem d_M_there_26 : decode b_M_there 26 = .ok (.ireturn, 1) := by decide +kernel
theorem d_M_there_27 : decode b_M_there 27 = .ok (.iload 4, 2) := by decide +kernel
theorem d_M_there_29 : decode b_M_there 29 = .ok (.iconst 2, 1) := by decide +kernel
theorem d_M_there_30 : decode b_M_there 30 = .ok (.if_icmp .ne 9, 3) := by decide +kernel
theorem d_M_there_33 : decode b_M_there 33 = .ok (.aload_n 0, 1) := by decide +kernel
theorem d_M_there_34 : decode b_M_there 34 = .ok (.iload_n 3, 1) := by decide +kernel
theorem d_M_there_35 : decode b_M_there 35 = .ok (.invokevirtual 128, 3) := by decide +kernel
theorem d_M_there_38 : decode b_M_there 38 = .ok (.ireturn, 1) := by decide +kernel
theorem d_M_there_39 : decode b_M_there 39 = .ok (.iload_n 1, 1) := by decide +kernel
theorem d_M_there_40 : decode b_M_there 40 = .ok (.bipush 7, 2) := by decide +kernel
theorem d_M_there_42 : decode b_M_there 42 = .ok (.if_icmp .eq 46, 3) := by decide +kernel
theorem d_M_there_45 : decode b_M_there 45 = .ok (.iload_n 1, 1) := by decide +kernel
theorem d_M_there_46 : decode b_M_there 46 = .ok (.bipush 13, 2) := by decide +kernel
theorem d_M_there_48 : decode b_M_there 48 = .ok (.if_icmp .ne 32, 3) := by decide +kernel
theorem d_M_there_51 : decode b_M_there 51 = .ok (.iload_n 3, 1) := by decide +kernel
theorem d_M_there_52 : decode b_M_there 52 = .ok (.ifCond .lt 40, 3) := by decide +kernel
theorem d_M_there_55 : decode b_M_there 55 = .ok (.aload_n 0, 1) := by decide +kernel
theorem d_M_there_56 : decode b_M_there 56 = .ok (.iload_n 3, 1) := by decide +kernel
theorem d_M_there_57 : decode b_M_there 57 = .ok (.bipush 64, 2) := by decide +kernel
theorem d_M_there_59 : decode b_M_there 59 = .ok (.idiv, 1) := by decide +kernel
theorem d_M_there_60 : decode b_M_there 60 = .ok (.invokevirtual 99, 3) := by decide +kernel
theorem d_M_there_63 : decode b_M_there 63 = .ok (.ifCond .eq 29, 3) := by decide +kernel
theorem d_M_there_66 : decode b_M_there 66 = .ok (.aload_n 0, 1) := by decide +kernel
theorem d_M_there_67 : decode b_M_there 67 = .ok (.iload_n 3, 1) := by decide +kernel
theorem d_M_there_68 : decode b_M_there 68 = .ok (.bipush 64, 2) := by decide +kernel
theorem d_M_there_70 : decode b_M_there 70 = .ok (.irem, 1) := by decide +kernel
theorem d_M_there_71 : decode b_M_there 71 = .ok (.invokevirtual 99, 3) := by decide +kernel
theorem d_M_there_74 : decode b_M_there 74 = .ok (.ifCond .eq 18, 3) := by decide +kernel
theorem d_M_there_77 : decode b_M_there 77 = .ok (.goto 11, 3) := by decide +kernel
theorem d_M_there_80 : decode b_M_there 80 = .ok (.aload_n 0, 1) := by decide +kernel
theorem d_M_there_81 : decode b_M_there 81 = .ok (.iload_n 3, 1) := by decide +kernel
theorem d_M_there_82 : decode b_M_there 82 = .ok (.invokevirtual 99, 3) := by decide +kernel
theorem d_M_there_85 : decode b_M_there 85 = .ok (.ifCond .eq 7, 3) := by decide +kernel
theorem d_M_there_88 : decode b_M_there 88 = .ok (.iconst 1, 1) := by decide +kernel
theorem d_M_there_89 : decode b_M_there 89 = .ok (.goto 4, 3) := by decide +kernel
theorem d_M_there_92 : decode b_M_there 92 = .ok (.iconst 0, 1) := by decide +kernel
theorem d_M_there_93 : decode b_M_there 93 = .ok (.ireturn, 1) := by decide +kernel
theorem d_M_reason_0 : decode b_M_reason 0 = .ok (.iload_n 1, 1) := by decide +kernel
theorem d_M_reason_1 : decode b_M_reason 1 = .ok (.iconst 2, 1) := by decide +kernel
theorem d_M_reason_2 : decode b_M_reason 2 = .ok (.if_icmp .ge 10, 3) := by decide +kernel
theorem d_M_reason_5 : decode b_M_reason 5 = .ok (.bipush 32, 2) := by decide +kernel
theorem d_M_reason_7 : decode b_M_reason 7 = .ok (.iload_n 2, 1) := by decide +kernel
theorem d_M_reason_8 : decode b_M_reason 8 = .ok (.imul, 1) := by decide +kernel
theorem d_M_reason_9 : decode b_M_reason 9 = .ok (.goto 12, 3) := by decide +kernel
theorem d_M_reason_12 : decode b_M_reason 12 = .ok (.bipush 32, 2) := by decide +kernel
theorem d_M_reason_14 : decode b_M_reason 14 = .ok (.aload_n 0, 1) := by decide +kernel
theorem d_M_reason_15 : decode b_M_reason 15 = .ok (.getfield 39, 3) := by decide +kernel
theorem d_M_reason_18 : decode b_M_reason 18 = .ok (.iload_n 2, 1) := by decide +kernel
theorem d_M_reason_19 : decode b_M_reason 19 = .ok (.iaload, 1) := by decide +kernel
theorem d_M_reason_20 : decode b_M_reason 20 = .ok (.imul, 1) := by decide +kernel
theorem d_M_reason_21 : decode b_M_reason 21 = .ok (.istore 4, 2) := by decide +kernel
theorem d_M_reason_23 : decode b_M_reason 23 = .ok (.iload_n 1, 1) := by decide +kernel
theorem d_M_reason_24 : decode b_M_reason 24 = .ok (.iconst 2, 1) := by decide +kernel
theorem d_M_reason_25 : decode b_M_reason 25 = .ok (.if_icmp .ge 7, 3) := by decide +kernel
theorem d_M_reason_28 : decode b_M_reason 28 = .ok (.iload_n 2, 1) := by decide +kernel
theorem d_M_reason_29 : decode b_M_reason 29 = .ok (.goto 4, 3) := by decide +kernel
theorem d_M_reason_32 : decode b_M_reason 32 = .ok (.iload_n 3, 1) := by decide +kernel
theorem d_M_reason_33 : decode b_M_reason 33 = .ok (.istore 5, 2) := by decide +kernel
theorem d_M_reason_35 : decode b_M_reason 35 = .ok (.iload_n 1, 1) := by decide +kernel
theorem d_M_reason_36 : decode b_M_reason 36 = .ok (.iconst 3, 1) := by decide +kernel
theorem d_M_reason_37 : decode b_M_reason 37 = .ok (.if_icmp .ge 88, 3) := by decide +kernel
theorem d_M_reason_40 : decode b_M_reason 40 = .ok (.aload_n 0, 1) := by decide +kernel
theorem d_M_reason_41 : decode b_M_reason 41 = .ok (.getfield 16, 3) := by decide +kernel
theorem d_M_reason_44 : decode b_M_reason 44 = .ok (.iload 5, 2) := by decide +kernel
theorem d_M_reason_46 : decode b_M_reason 46 = .ok (.iaload, 1) := by decide +kernel
theorem d_M_reason_47 : decode b_M_reason 47 = .ok (.ifCond .eq 6, 3) := by decide +kernel
theorem d_M_reason_50 : decode b_M_reason 50 = .ok (.bipush (-2), 2) := by decide +kernel
theorem d_M_reason_52 : decode b_M_reason 52 = .ok (.ireturn, 1) := by decide +kernel
theorem d_M_reason_53 : decode b_M_reason 53 = .ok (.iload_n 1, 1) := by decide +kernel
theorem d_M_reason_54 : decode b_M_reason 54 = .ok (.iconst 2, 1) := by decide +kernel
theorem d_M_reason_55 : decode b_M_reason 55 = .ok (.if_icmp .ne 8, 3) := by decide +kernel
theorem d_M_reason_58 : decode b_M_reason 58 = .ok (.aload_n 0, 1) := by decide +kernel
theorem d_M_reason_59 : decode b_M_reason 59 = .ok (.iconst 2, 1) := by decide +kernel
theorem d_M_reason_60 : decode b_M_reason 60 = .ok (.invokevirtual 68, 3) := by decide +kernel
theorem d_M_reason_63 : decode b_M_reason 63 = .ok (.aload_n 0, 1) := by decide +kernel
theorem d_M_reason_64 : decode b_M_reason 64 = .ok (.bipush 32, 2) := by decide +kernel
theorem d_M_reason_66 : decode b_M_reason 66 = .ok (.iload 5, 2) := by decide +kernel
theorem d_M_reason_68 : decode b_M_reason 68 = .ok (.imul, 1) := by decide +kernel
theorem d_M_reason_69 : decode b_M_reason 69 = .ok (.invokevirtual 72, 3) := by decide +kernel
theorem d_M_reason_72 : decode b_M_reason 72 = .ok (.iload_n 1, 1) := by decide +kernel
theorem d_M_reason_73 : decode b_M_reason 73 = .ok (.iconst 2, 1) := by decide +kernel
theorem d_M_reason_74 : decode b_M_reason 74 = .ok (.if_icmp .ne 9, 3) := by decide +kernel
theorem d_M_reason_77 : decode b_M_reason 77 = .ok (.aload_n 0, 1) := by decide +kernel
theorem d_M_reason_78 : decode b_M_reason 78 = .ok (.iload 4, 2) := by decide +kernel
theorem d_M_reason_80 : decode b_M_reason 80 = .ok (.invokevirtual 72, 3) := by decide +kernel
theorem d_M_reason_83 : decode b_M_reason 83 = .ok (.aload_n 0, 1) := by decide +kernel
theorem d_M_reason_84 : decode b_M_reason 84 = .ok (.iload_n 1, 1) := by decide +kernel
theorem d_M_reason_85 : decode b_M_reason 85 = .ok (.iconst 1, 1) := by decide +kernel
theorem d_M_reason_86 : decode b_M_reason 86 = .ok (.if_icmp .ne 9, 3) := by decide +kernel
theorem d_M_reason_89 : decode b_M_reason 89 = .ok (.lconst 1, 1) := by decide +kernel
theorem d_M_reason_90 : decode b_M_reason 90 = .ok (.iload_n 2, 1) := by decide +kernel
theorem d_M_reason_91 : decode b_M_reason 91 = .ok (.lshl, 1) := by decide +kernel
theorem d_M_reason_92 : decode b_M_reason 92 = .ok (.goto 27, 3) := by decide +kernel
theorem d_M_reason_95 : decode b_M_reason 95 = .ok (.iload_n 1, 1) := by decide +kernel
theorem d_M_reason_96 : decode b_M_reason 96 = .ok (.iconst 2, 1) := by decide +kernel
theorem d_M_reason_97 : decode b_M_reason 97 = .ok (.if_icmp .ne 18, 3) := by decide +kernel
theorem d_M_reason_100 : decode b_M_reason 100 = .ok (.aload_n 0, 1) := by decide +kernel
theorem d_M_reason_101 : decode b_M_reason 101 = .ok (.getfield 118, 3) := by decide +kernel
theorem d_M_reason_104 : decode b_M_reason 104 = .ok (.lconst 1, 1) := by decide +kernel
theorem d_M_reason_105 : decode b_M_reason 105 = .ok (.iload_n 3, 1) := by decide +kernel
theorem d_M_reason_106 : decode b_M_reason 106 = .ok (.lshl, 1) := by decide +kernel
theorem d_M_reason_107 : decode b_M_reason 107 = .ok (.ldc2_w 131, 3) := by decide +kernel
theorem d_M_reason_110 : decode b_M_reason 110 = .ok (.lxor, 1) := by decide +kernel
theorem d_M_reason_111 : decode b_M_reason 111 = .ok (.land, 1) := by decide +kernel
theorem d_M_reason_112 : decode b_M_reason 112 = .ok (.goto 7, 3) := by decide +kernel
theorem d_M_reason_115 : decode b_M_reason 115 = .ok (.aload_n 0, 1) := by decide +kernel
theorem d_M_reason_116 : decode b_M_reason 116 = .ok (.getfield 118, 3) := by decide +kernel
theorem d_M_reason_119 : decode b_M_reason 119 = .ok (.putfield 118, 3) := by decide +kernel
theorem d_M_reason_122 : decode b_M_reason 122 = .ok (.goto 197, 3) := by decide +kernel
theorem d_M_reason_125 : decode b_M_reason 125 = .ok (.iload_n 1, 1) := by decide +kernel
theorem d_M_reason_126 : decode b_M_reason 126 = .ok (.iconst 3, 1) := by decide +kernel
theorem d_M_reason_127 : decode b_M_reason 127 = .ok (.if_icmp .eq 9, 3) := by decide +kernel
theorem d_M_reason_130 : decode b_M_reason 130 = .ok (.iload_n 1, 1) := by decide +kernel
theorem d_M_reason_131 : decode b_M_reason 131 = .ok (.bipush 12, 2) := by decide +kernel
theorem d_M_reason_133 : decode b_M_reason 133 = .ok (.if_icmp .ne 61, 3) := by decide +kernel
theorem d_M_reason_136 : decode b_M_reason 136 = .ok (.aload_n 0, 1) := by decide +kernel
theorem d_M_reason_137 : decode b_M_reason 137 = .ok (.getfield 7, 3) := by decide +kernel
theorem d_M_reason_140 : decode b_M_reason 140 = .ok (.iload 4, 2) := by decide +kernel
theorem d_M_reason_142 : decode b_M_reason 142 = .ok (.iaload, 1) := by decide +kernel
theorem d_M_reason_143 : decode b_M_reason 143 = .ok (.iload_n 1, 1) := by decide +kernel
theorem d_M_reason_144 : decode b_M_reason 144 = .ok (.iconst 3, 1) := by decide +kernel
theorem d_M_reason_145 : decode b_M_reason 145 = .ok (.if_icmp .ne 7, 3) := by decide +kernel
theorem d_M_reason_148 : decode b_M_reason 148 = .ok (.iconst 2, 1) := by decide +kernel
theorem d_M_reason_149 : decode b_M_reason 149 = .ok (.goto 4, 3) := by decide +kernel
theorem d_M_reason_152 : decode b_M_reason 152 = .ok (.iconst 3, 1) := by decide +kernel
theorem d_M_reason_153 : decode b_M_reason 153 = .ok (.if_icmp .ne 23, 3) := by decide +kernel
theorem d_M_reason_156 : decode b_M_reason 156 = .ok (.aload_n 0, 1) := by decide +kernel
theorem d_M_reason_157 : decode b_M_reason 157 = .ok (.iload 4, 2) := by decide +kernel
theorem d_M_reason_159 : decode b_M_reason 159 = .ok (.iconst 1, 1) := by decide +kernel
theorem d_M_reason_160 : decode b_M_reason 160 = .ok (.iadd, 1) := by decide +kernel
theorem d_M_reason_161 : decode b_M_reason 161 = .ok (.bipush 32, 2) := by decide +kernel
theorem d_M_reason_163 : decode b_M_reason 163 = .ok (.aload_n 0, 1) := by decide +kernel
theorem d_M_reason_164 : decode b_M_reason 164 = .ok (.getfield 39, 3) := by decide +kernel
theorem d_M_reason_167 : decode b_M_reason 167 = .ok (.iload_n 3, 1) := by decide +kernel
theorem d_M_reason_168 : decode b_M_reason 168 = .ok (.iaload, 1) := by decide +kernel
theorem d_M_reason_169 : decode b_M_reason 169 = .ok (.imul, 1) := by decide +kernel
theorem d_M_reason_170 : decode b_M_reason 170 = .ok (.invokevirtual 81, 3) := by decide +kernel
theorem d_M_reason_173 : decode b_M_reason 173 = .ok (.ifCond .ne 6, 3) := by decide +kernel
theorem d_M_reason_176 : decode b_M_reason 176 = .ok (.bipush (-2), 2) := by decide +kernel
theorem d_M_reason_178 : decode b_M_reason 178 = .ok (.ireturn, 1) := by decide +kernel
theorem d_M_reason_179 : decode b_M_reason 179 = .ok (.aload_n 0, 1) := by decide +kernel
theorem d_M_reason_180 : decode b_M_reason 180 = .ok (.aload_n 0, 1) := by decide +kernel
theorem d_M_reason_181 : decode b_M_reason 181 = .ok (.iload 4, 2) := by decide +kernel
theorem d_M_reason_183 : decode b_M_reason 183 = .ok (.iconst 1, 1) := by decide +kernel
theorem d_M_reason_184 : decode b_M_reason 184 = .ok (.iadd, 1) := by decide +kernel
theorem d_M_reason_185 : decode b_M_reason 185 = .ok (.invokevirtual 55, 3) := by decide +kernel
theorem d_M_reason_188 : decode b_M_reason 188 = .ok (.invokevirtual 72, 3) := by decide +kernel
theorem d_M_reason_191 : decode b_M_reason 191 = .ok (.goto 128, 3) := by decide +kernel
theorem d_M_reason_194 : decode b_M_reason 194 = .ok (.iload_n 1, 1) := by decide +kernel
theorem d_M_reason_195 : decode b_M_reason 195 = .ok (.iconst 4, 1) := by decide +kernel
theorem d_M_reason_196 : decode b_M_reason 196 = .ok (.if_icmp .ne 65, 3) := by decide +kernel
theorem d_M_reason_199 : decode b_M_reason 199 = .ok (.aload_n 0, 1) := by decide +kernel
theorem d_M_reason_200 : decode b_M_reason 200 = .ok (.iload_n 3, 1) := by decide +kernel
theorem d_M_reason_201 : decode b_M_reason 201 = .ok (.invokevirtual 105, 3) := by decide +kernel
theorem d_M_reason_204 : decode b_M_reason 204 = .ok (.ifCond .ne 6, 3) := by decide +kernel
theorem d_M_reason_207 : decode b_M_reason 207 = .ok (.bipush (-2), 2) := by decide +kernel
theorem d_M_reason_209 : decode b_M_reason 209 = .ok (.ireturn, 1) := by decide +kernel
theorem d_M_reason_210 : decode b_M_reason 210 = .ok (.aload_n 0, 1) := by decide +kernel
theorem d_M_reason_211 : decode b_M_reason 211 = .ok (.aload_n 0, 1) := by decide +kernel
theorem d_M_reason_212 : decode b_M_reason 212 = .ok (.getfield 7, 3) := by decide +kernel
theorem d_M_reason_215 : decode b_M_reason 215 = .ok (.bipush 32, 2) := by decide +kernel
theorem d_M_reason_217 : decode b_M_reason 217 = .ok (.iload_n 3, 1) := by decide +kernel
theorem d_M_reason_218 : decode b_M_reason 218 = .ok (.imul, 1) := by decide +kernel
theorem d_M_reason_219 : decode b_M_reason 219 = .ok (.iaload, 1) := by decide +kernel
theorem d_M_reason_220 : decode b_M_reason 220 = .ok (.invokevirtual 133, 3) := by decide +kernel
theorem d_M_reason_223 : decode b_M_reason 223 = .ok (.ifCond .eq 6, 3) := by decide +kernel
theorem d_M_reason_226 : decode b_M_reason 226 = .ok (.bipush (-3), 2) := by decide +kernel
theorem d_M_reason_228 : decode b_M_reason 228 = .ok (.ireturn, 1) := by decide +kernel
theorem d_M_reason_229 : decode b_M_reason 229 = .ok (.aload_n 0, 1) := by decide +kernel
theorem d_M_reason_230 : decode b_M_reason 230 = .ok (.bipush 32, 2) := by decide +kernel
theorem d_M_reason_232 : decode b_M_reason 232 = .ok (.aload_n 0, 1) := by decide +kernel
theorem d_M_reason_233 : decode b_M_reason 233 = .ok (.getfield 16, 3) := by decide +kernel
theorem d_M_reason_236 : decode b_M_reason 236 = .ok (.iload_n 3, 1) := by decide +kernel
theorem d_M_reason_237 : decode b_M_reason 237 = .ok (.iaload, 1) := by decide +kernel
theorem d_M_reason_238 : decode b_M_reason 238 = .ok (.iadd, 1) := by decide +kernel
theorem d_M_reason_239 : decode b_M_reason 239 = .ok (.invokevirtual 68, 3) := by decide +kernel
theorem d_M_reason_242 : decode b_M_reason 242 = .ok (.aload_n 0, 1) := by decide +kernel
theorem d_M_reason_243 : decode b_M_reason 243 = .ok (.iload 4, 2) := by decide +kernel
theorem d_M_reason_245 : decode b_M_reason 245 = .ok (.aload_n 0, 1) := by decide +kernel
theorem d_M_reason_246 : decode b_M_reason 246 = .ok (.getfield 7, 3) := by decide +kernel
theorem d_M_reason_249 : decode b_M_reason 249 = .ok (.bipush 32, 2) := by decide +kernel
theorem d_M_reason_251 : decode b_M_reason 251 = .ok (.iload_n 3, 1) := by decide +kernel
theorem d_M_reason_252 : decode b_M_reason 252 = .ok (.imul, 1) := by decide +kernel
theorem d_M_reason_253 : decode b_M_reason 253 = .ok (.iaload, 1) := by decide +kernel
theorem d_M_reason_254 : decode b_M_reason 254 = .ok (.iconst (-1), 1) := by decide +kernel
theorem d_M_reason_255 : decode b_M_reason 255 = .ok (.invokevirtual 111, 3) := by decide +kernel
theorem d_M_reason_258 : decode b_M_reason 258 = .ok (.goto 61, 3) := by decide +kernel
theorem d_M_reason_261 : decode b_M_reason 261 = .ok (.aload_n 0, 1) := by decide +kernel
theorem d_M_reason_262 : decode b_M_reason 262 = .ok (.getfield 7, 3) := by decide +kernel
theorem d_M_reason_265 : decode b_M_reason 265 = .ok (.iload 4, 2) := by decide +kernel
theorem d_M_reason_267 : decode b_M_reason 267 = .ok (.iaload, 1) := by decide +kernel
theorem d_M_reason_268 : decode b_M_reason 268 = .ok (.bipush 32, 2) := by decide +kernel
theorem d_M_reason_270 : decode b_M_reason 270 = .ok (.if_icmp .lt 34, 3) := by decide +kernel
theorem d_M_reason_273 : decode b_M_reason 273 = .ok (.aload_n 0, 1) := by decide +kernel
theorem d_M_reason_274 : decode b_M_reason 274 = .ok (.getfield 7, 3) := by decide +kernel
theorem d_M_reason_277 : decode b_M_reason 277 = .ok (.iload 4, 2) := by decide +kernel
theorem d_M_reason_279 : decode b_M_reason 279 = .ok (.iaload, 1) := by decide +kernel
theorem d_M_reason_280 : decode b_M_reason 280 = .ok (.bipush 64, 2) := by decide +kernel
theorem d_M_reason_282 : decode b_M_reason 282 = .ok (.if_icmp .ge 22, 3) := by decide +kernel
theorem d_M_reason_285 : decode b_M_reason 285 = .ok (.aload_n 0, 1) := by decide +kernel
theorem d_M_reason_286 : decode b_M_reason 286 = .ok (.getfield 7, 3) := by decide +kernel
theorem d_M_reason_289 : decode b_M_reason 289 = .ok (.iload 4, 2) := by decide +kernel
theorem d_M_reason_291 : decode b_M_reason 291 = .ok (.iaload, 1) := by decide +kernel
theorem d_M_reason_292 : decode b_M_reason 292 = .ok (.bipush 32, 2) := by decide +kernel
theorem d_M_reason_294 : decode b_M_reason 294 = .ok (.isub, 1) := by decide +kernel
theorem d_M_reason_295 : decode b_M_reason 295 = .ok (.aload_n 0, 1) := by decide +kernel
theorem d_M_reason_296 : decode b_M_reason 296 = .ok (.getfield 16, 3) := by decide +kernel
theorem d_M_reason_299 : decode b_M_reason 299 = .ok (.iload_n 3, 1) := by decide +kernel
theorem d_M_reason_300 : decode b_M_reason 300 = .ok (.iaload, 1) := by decide +kernel
theorem d_M_reason_301 : decode b_M_reason 301 = .ok (.if_icmp .eq 6, 3) := by decide +kernel
theorem d_M_reason_304 : decode b_M_reason 304 = .ok (.bipush (-2), 2) := by decide +kernel
theorem d_M_reason_306 : decode b_M_reason 306 = .ok (.ireturn, 1) := by decide +kernel
theorem d_M_reason_307 : decode b_M_reason 307 = .ok (.aload_n 0, 1) := by decide +kernel
theorem d_M_reason_308 : decode b_M_reason 308 = .ok (.iload 4, 2) := by decide +kernel
theorem d_M_reason_310 : decode b_M_reason 310 = .ok (.iconst 1, 1) := by decide +kernel
theorem d_M_reason_311 : decode b_M_reason 311 = .ok (.iadd, 1) := by decide +kernel
theorem d_M_reason_312 : decode b_M_reason 312 = .ok (.bipush 32, 2) := by decide +kernel
theorem d_M_reason_314 : decode b_M_reason 314 = .ok (.iload_n 3, 1) := by decide +kernel
theorem d_M_reason_315 : decode b_M_reason 315 = .ok (.imul, 1) := by decide +kernel
theorem d_M_reason_316 : decode b_M_reason 316 = .ok (.invokevirtual 136, 3) := by decide +kernel
theorem d_M_reason_319 : decode b_M_reason 319 = .ok (.iconst 0, 1) := by decide +kernel
theorem d_M_reason_320 : decode b_M_reason 320 = .ok (.ireturn, 1) := by decide +kernel
theorem d_M_equate_0 : decode b_M_equate 0 = .ok (.aload_n 0, 1) := by decide +kernel
theorem d_M_equate_1 : decode b_M_equate 1 = .ok (.iconst 3, 1) := by decide +kernel
theorem d_M_equate_2 : decode b_M_equate 2 = .ok (.invokevirtual 68, 3) := by decide +kernel
theorem d_M_equate_5 : decode b_M_equate 5 = .ok (.iload_n 1, 1) := by decide +kernel
theorem d_M_equate_6 : decode b_M_equate 6 = .ok (.bipush 6, 2) := by decide +kernel
theorem d_M_equate_8 : decode b_M_equate 8 = .ok (.if_icmp .eq 9, 3) := by decide +kernel
theorem d_M_equate_11 : decode b_M_equate 11 = .ok (.iload_n 1, 1) := by decide +kernel
theorem d_M_equate_12 : decode b_M_equate 12 = .ok (.bipush 11, 2) := by decide +kernel
theorem d_M_equate_14 : decode b_M_equate 14 = .ok (.if_icmp .ne 10, 3) := by decide +kernel
theorem d_M_equate_17 : decode b_M_equate 17 = .ok (.bipush 32, 2) := by decide +kernel
theorem d_M_equate_19 : decode b_M_equate 19 = .ok (.iload_n 2, 1) := by decide +kernel
theorem d_M_equate_20 : decode b_M_equate 20 = .ok (.imul, 1) := by decide +kernel
theorem d_M_equate_21 : decode b_M_equate 21 = .ok (.goto 12, 3) := by decide +kernel
theorem d_M_equate_24 : decode b_M_equate 24 = .ok (.bipush 32, 2) := by decide +kernel
theorem d_M_equate_26 : decode b_M_equate 26 = .ok (.aload_n 0, 1) := by decide +kernel
theorem d_M_equate_27 : decode b_M_equate 27 = .ok (.getfield 39, 3) := by decide +kernel
theorem d_M_equate_30 : decode b_M_equate 30 = .ok (.iload_n 2, 1) := by decide +kernel
theorem d_M_equate_31 : decode b_M_equate 31 = .ok (.iaload, 1) := by decide +kernel
theorem d_M_equate_32 : decode b_M_equate 32 = .ok (.imul, 1) := by decide +kernel
theorem d_M_equate_33 : decode b_M_equate 33 = .ok (.istore 4, 2) := by decide +kernel
theorem d_M_equate_35 : decode b_M_equate 35 = .ok (.iload_n 1, 1) := by decide +kernel
theorem d_M_equate_36 : decode b_M_equate 36 = .ok (.bipush 6, 2) := by decide +kernel
theorem d_M_equate_38 : decode b_M_equate 38 = .ok (.if_icmp .ne 18, 3) := by decide +kernel
theorem d_M_equate_41 : decode b_M_equate 41 = .ok (.aload_n 0, 1) := by decide +kernel
theorem d_M_equate_42 : decode b_M_equate 42 = .ok (.iload 4, 2) := by decide +kernel
theorem d_M_equate_44 : decode b_M_equate 44 = .ok (.invokevirtual 72, 3) := by decide +kernel
theorem d_M_equate_47 : decode b_M_equate 47 = .ok (.aload_n 0, 1) := by decide +kernel
theorem d_M_equate_48 : decode b_M_equate 48 = .ok (.iload 4, 2) := by decide +kernel
theorem d_M_equate_50 : decode b_M_equate 50 = .ok (.invokevirtual 72, 3) := by decide +kernel
theorem d_M_equate_53 : decode b_M_equate 53 = .ok (.goto 160, 3) := by decide +kernel
theorem d_M_equate_56 : decode b_M_equate 56 = .ok (.iload_n 1, 1) := by decide +kernel
theorem d_M_equate_57 : decode b_M_equate 57 = .ok (.bipush 11, 2) := by decide +kernel
theorem d_M_equate_59 : decode b_M_equate 59 = .ok (.if_icmp .ne 70, 3) := by decide +kernel
theorem d_M_equate_62 : decode b_M_equate 62 = .ok (.aload_n 0, 1) := by decide +kernel
theorem d_M_equate_63 : decode b_M_equate 63 = .ok (.getfield 7, 3) := by decide +kernel
theorem d_M_equate_66 : decode b_M_equate 66 = .ok (.iload 4, 2) := by decide +kernel
theorem d_M_equate_68 : decode b_M_equate 68 = .ok (.iaload, 1) := by decide +kernel
theorem d_M_equate_69 : decode b_M_equate 69 = .ok (.iconst 1, 1) := by decide +kernel
theorem d_M_equate_70 : decode b_M_equate 70 = .ok (.if_icmp .ne 31, 3) := by decide +kernel
theorem d_M_equate_73 : decode b_M_equate 73 = .ok (.aload_n 0, 1) := by decide +kernel
theorem d_M_equate_74 : decode b_M_equate 74 = .ok (.getfield 7, 3) := by decide +kernel
theorem d_M_equate_77 : decode b_M_equate 77 = .ok (.iload 4, 2) := by decide +kernel
theorem d_M_equate_79 : decode b_M_equate 79 = .ok (.iconst 1, 1) := by decide +kernel
theorem d_M_equate_80 : decode b_M_equate 80 = .ok (.iadd, 1) := by decide +kernel
theorem d_M_equate_81 : decode b_M_equate 81 = .ok (.iaload, 1) := by decide +kernel
theorem d_M_equate_82 : decode b_M_equate 82 = .ok (.bipush 16, 2) := by decide +kernel
theorem d_M_equate_84 : decode b_M_equate 84 = .ok (.if_icmp .lt 17, 3) := by decide +kernel
theorem d_M_equate_87 : decode b_M_equate 87 = .ok (.aload_n 0, 1) := by decide +kernel
theorem d_M_equate_88 : decode b_M_equate 88 = .ok (.getfield 7, 3) := by decide +kernel
theorem d_M_equate_91 : decode b_M_equate 91 = .ok (.iload 4, 2) := by decide +kernel
theorem d_M_equate_93 : decode b_M_equate 93 = .ok (.iconst 1, 1) := by decide +kernel
theorem d_M_equate_94 : decode b_M_equate 94 = .ok (.iadd, 1) := by decide +kernel
theorem d_M_equate_95 : decode b_M_equate 95 = .ok (.iaload, 1) := by decide +kernel
theorem d_M_equate_96 : decode b_M_equate 96 = .ok (.bipush 32, 2) := by decide +kernel
theorem d_M_equate_98 : decode b_M_equate 98 = .ok (.if_icmp .lt 6, 3) := by decide +kernel
theorem d_M_equate_101 : decode b_M_equate 101 = .ok (.bipush (-2), 2) := by decide +kernel
theorem d_M_equate_103 : decode b_M_equate 103 = .ok (.ireturn, 1) := by decide +kernel
theorem d_M_equate_104 : decode b_M_equate 104 = .ok (.aload_n 0, 1) := by decide +kernel
theorem d_M_equate_105 : decode b_M_equate 105 = .ok (.iload 4, 2) := by decide +kernel
theorem d_M_equate_107 : decode b_M_equate 107 = .ok (.invokevirtual 72, 3) := by decide +kernel
theorem d_M_equate_110 : decode b_M_equate 110 = .ok (.aload_n 0, 1) := by decide +kernel
theorem d_M_equate_111 : decode b_M_equate 111 = .ok (.iload 4, 2) := by decide +kernel
theorem d_M_equate_113 : decode b_M_equate 113 = .ok (.iconst 2, 1) := by decide +kernel
theorem d_M_equate_114 : decode b_M_equate 114 = .ok (.iadd, 1) := by decide +kernel
theorem d_M_equate_115 : decode b_M_equate 115 = .ok (.aload_n 0, 1) := by decide +kernel
theorem d_M_equate_116 : decode b_M_equate 116 = .ok (.iload 4, 2) := by decide +kernel
theorem d_M_equate_118 : decode b_M_equate 118 = .ok (.iconst 1, 1) := by decide +kernel
theorem d_M_equate_119 : decode b_M_equate 119 = .ok (.iadd, 1) := by decide +kernel
theorem d_M_equate_120 : decode b_M_equate 120 = .ok (.invokevirtual 55, 3) := by decide +kernel
theorem d_M_equate_123 : decode b_M_equate 123 = .ok (.invokevirtual 136, 3) := by decide +kernel
theorem d_M_equate_126 : decode b_M_equate 126 = .ok (.goto 87, 3) := by decide +kernel
theorem d_M_equate_129 : decode b_M_equate 129 = .ok (.aload_n 0, 1) := by decide +kernel
theorem d_M_equate_130 : decode b_M_equate 130 = .ok (.getfield 7, 3) := by decide +kernel
theorem d_M_equate_133 : decode b_M_equate 133 = .ok (.iload 4, 2) := by decide +kernel
theorem d_M_equate_135 : decode b_M_equate 135 = .ok (.iaload, 1) := by decide +kernel
theorem d_M_equate_136 : decode b_M_equate 136 = .ok (.iconst 3, 1) := by decide +kernel
theorem d_M_equate_137 : decode b_M_equate 137 = .ok (.if_icmp .eq 6, 3) := by decide +kernel
theorem d_M_equate_140 : decode b_M_equate 140 = .ok (.bipush (-2), 2) := by decide +kernel
theorem d_M_equate_142 : decode b_M_equate 142 = .ok (.ireturn, 1) := by decide +kernel
theorem d_M_equate_143 : decode b_M_equate 143 = .ok (.iload 4, 2) := by decide +kernel
theorem d_M_equate_145 : decode b_M_equate 145 = .ok (.iconst 1, 1) := by decide +kernel
theorem d_M_equate_146 : decode b_M_equate 146 = .ok (.iadd, 1) := by decide +kernel
theorem d_M_equate_147 : decode b_M_equate 147 = .ok (.istore 5, 2) := by decide +kernel
theorem d_M_equate_149 : decode b_M_equate 149 = .ok (.aload_n 0, 1) := by decide +kernel
theorem d_M_equate_150 : decode b_M_equate 150 = .ok (.iload 5, 2) := by decide +kernel
theorem d_M_equate_152 : decode b_M_equate 152 = .ok (.invokevirtual 55, 3) := by decide +kernel
theorem d_M_equate_155 : decode b_M_equate 155 = .ok (.istore 6, 2) := by decide +kernel
theorem d_M_equate_157 : decode b_M_equate 157 = .ok (.iload_n 1, 1) := by decide +kernel
theorem d_M_equate_158 : decode b_M_equate 158 = .ok (.bipush 7, 2) := by decide +kernel
theorem d_M_equate_160 : decode b_M_equate 160 = .ok (.if_icmp .ne 18, 3) := by decide +kernel
theorem d_M_equate_163 : decode b_M_equate 163 = .ok (.aload_n 0, 1) := by decide +kernel
theorem d_M_equate_164 : decode b_M_equate 164 = .ok (.iload 6, 2) := by decide +kernel
theorem d_M_equate_166 : decode b_M_equate 166 = .ok (.invokevirtual 72, 3) := by decide +kernel
theorem d_M_equate_169 : decode b_M_equate 169 = .ok (.aload_n 0, 1) := by decide +kernel
theorem d_M_equate_170 : decode b_M_equate 170 = .ok (.iload 5, 2) := by decide +kernel
theorem d_M_equate_172 : decode b_M_equate 172 = .ok (.invokevirtual 72, 3) := by decide +kernel
theorem d_M_equate_175 : decode b_M_equate 175 = .ok (.goto 38, 3) := by decide +kernel
theorem d_M_equate_178 : decode b_M_equate 178 = .ok (.iload_n 1, 1) := by decide +kernel
theorem d_M_equate_179 : decode b_M_equate 179 = .ok (.bipush 10, 2) := by decide +kernel
theorem d_M_equate_181 : decode b_M_equate 181 = .ok (.if_icmp .ne 13, 3) := by decide +kernel
theorem d_M_equate_184 : decode b_M_equate 184 = .ok (.aload_n 0, 1) := by decide +kernel
theorem d_M_equate_185 : decode b_M_equate 185 = .ok (.iload_n 3, 1) := by decide +kernel
theorem d_M_equate_186 : decode b_M_equate 186 = .ok (.iload 5, 2) := by decide +kernel
theorem d_M_equate_188 : decode b_M_equate 188 = .ok (.iload 6, 2) := by decide +kernel
theorem d_M_equate_190 : decode b_M_equate 190 = .ok (.invokevirtual 140, 3) := by decide +kernel
theorem d_M_equate_193 : decode b_M_equate 193 = .ok (.ireturn, 1) := by decide +kernel
theorem d_M_equate_194 : decode b_M_equate 194 = .ok (.aload_n 0, 1) := by decide +kernel
theorem d_M_equate_195 : decode b_M_equate 195 = .ok (.iload_n 1, 1) := by decide +kernel
theorem d_M_equate_196 : decode b_M_equate 196 = .ok (.iload 5, 2) := by decide +kernel
theorem d_M_equate_198 : decode b_M_equate 198 = .ok (.iload 6, 2) := by decide +kernel
theorem d_M_equate_200 : decode b_M_equate 200 = .ok (.bipush 32, 2) := by decide +kernel
theorem d_M_equate_202 : decode b_M_equate 202 = .ok (.aload_n 0, 1) := by decide +kernel
theorem d_M_equate_203 : decode b_M_equate 203 = .ok (.getfield 39, 3) := by decide +kernel
theorem d_M_equate_206 : decode b_M_equate 206 = .ok (.iload_n 3, 1) := by decide +kernel
theorem d_M_equate_207 : decode b_M_equate 207 = .ok (.iaload, 1) := by decide +kernel
theorem d_M_equate_208 : decode b_M_equate 208 = .ok (.imul, 1) := by decide +kernel
theorem d_M_equate_209 : decode b_M_equate 209 = .ok (.invokevirtual 144, 3) := by decide +kernel
theorem d_M_equate_212 : decode b_M_equate 212 = .ok (.ireturn, 1) := by decide +kernel
theorem d_M_equate_213 : decode b_M_equate 213 = .ok (.iconst 0, 1) := by decide +kernel
theorem d_M_equate_214 : decode b_M_equate 214 = .ok (.ireturn, 1) := by decide +kernel
theorem d_M_abstraction_0 : decode b_M_abstraction 0 = .ok (.aload_n 0, 1) := by decide +kernel
theorem d_M_abstraction_1 : decode b_M_abstraction 1 = .ok (.iload_n 1, 1) := by decide +kernel
theorem d_M_abstraction_2 : decode b_M_abstraction 2 = .ok (.invokevirtual 105, 3) := by decide +kernel
theorem d_M_abstraction_5 : decode b_M_abstraction 5 = .ok (.ifCond .ne 6, 3) := by decide +kernel
theorem d_M_abstraction_8 : decode b_M_abstraction 8 = .ok (.bipush (-2), 2) := by decide +kernel
theorem d_M_abstraction_10 : decode b_M_abstraction 10 = .ok (.ireturn, 1) := by decide +kernel
theorem d_M_abstraction_11 : decode b_M_abstraction 11 = .ok (.aload_n 0, 1) := by decide +kernel
theorem d_M_abstraction_12 : decode b_M_abstraction 12 = .ok (.getfield 7, 3) := by decide +kernel
theorem d_M_abstraction_15 : decode b_M_abstraction 15 = .ok (.bipush 32, 2) := by decide +kernel
theorem d_M_abstraction_17 : decode b_M_abstraction 17 = .ok (.iload_n 1, 1) := by decide +kernel
theorem d_M_abstraction_18 : decode b_M_abstraction 18 = .ok (.imul, 1) := by decide +kernel
theorem d_M_abstraction_19 : decode b_M_abstraction 19 = .ok (.iaload, 1) := by decide +kernel
theorem d_M_abstraction_20 : decode b_M_abstraction 20 = .ok (.istore 4, 2) := by decide +kernel
theorem d_M_abstraction_22 : decode b_M_abstraction 22 = .ok (.aload_n 0, 1) := by decide +kernel
theorem d_M_abstraction_23 : decode b_M_abstraction 23 = .ok (.iload 4, 2) := by decide +kernel
theorem d_M_abstraction_25 : decode b_M_abstraction 25 = .ok (.invokevirtual 133, 3) := by decide +kernel
theorem d_M_abstraction_28 : decode b_M_abstraction 28 = .ok (.ifCond .eq 6, 3) := by decide +kernel
theorem d_M_abstraction_31 : decode b_M_abstraction 31 = .ok (.bipush (-3), 2) := by decide +kernel
theorem d_M_abstraction_33 : decode b_M_abstraction 33 = .ok (.ireturn, 1) := by decide +kernel
theorem d_M_abstraction_34 : decode b_M_abstraction 34 = .ok (.aload_n 0, 1) := by decide +kernel
theorem d_M_abstraction_35 : decode b_M_abstraction 35 = .ok (.aload_n 0, 1) := by decide +kernel
theorem d_M_abstraction_36 : decode b_M_abstraction 36 = .ok (.getfield 16, 3) := by decide +kernel
theorem d_M_abstraction_39 : decode b_M_abstraction 39 = .ok (.iload_n 1, 1) := by decide +kernel
theorem d_M_abstraction_40 : decode b_M_abstraction 40 = .ok (.iaload, 1) := by decide +kernel
theorem d_M_abstraction_41 : decode b_M_abstraction 41 = .ok (.aload_n 0, 1) := by decide +kernel
theorem d_M_abstraction_42 : decode b_M_abstraction 42 = .ok (.iload_n 2, 1) := by decide +kernel
theorem d_M_abstraction_43 : decode b_M_abstraction 43 = .ok (.invokevirtual 85, 3) := by decide +kernel
theorem d_M_abstraction_46 : decode b_M_abstraction 46 = .ok (.invokevirtual 108, 3) := by decide +kernel
theorem d_M_abstraction_49 : decode b_M_abstraction 49 = .ok (.ifCond .ge 6, 3) := by decide +kernel
theorem d_M_abstraction_52 : decode b_M_abstraction 52 = .ok (.bipush (-4), 2) := by decide +kernel
theorem d_M_abstraction_54 : decode b_M_abstraction 54 = .ok (.ireturn, 1) := by decide +kernel
theorem d_M_abstraction_55 : decode b_M_abstraction 55 = .ok (.aload_n 0, 1) := by decide +kernel
theorem d_M_abstraction_56 : decode b_M_abstraction 56 = .ok (.bipush 16, 2) := by decide +kernel
theorem d_M_abstraction_58 : decode b_M_abstraction 58 = .ok (.aload_n 0, 1) := by decide +kernel
theorem d_M_abstraction_59 : decode b_M_abstraction 59 = .ok (.getfield 16, 3) := by decide +kernel
theorem d_M_abstraction_62 : decode b_M_abstraction 62 = .ok (.iload_n 1, 1) := by decide +kernel
theorem d_M_abstraction_63 : decode b_M_abstraction 63 = .ok (.iaload, 1) := by decide +kernel
theorem d_M_abstraction_64 : decode b_M_abstraction 64 = .ok (.iadd, 1) := by decide +kernel
theorem d_M_abstraction_65 : decode b_M_abstraction 65 = .ok (.invokevirtual 68, 3) := by decide +kernel
theorem d_M_abstraction_68 : decode b_M_abstraction 68 = .ok (.aload_n 0, 1) := by decide +kernel
theorem d_M_abstraction_69 : decode b_M_abstraction 69 = .ok (.iload_n 2, 1) := by decide +kernel
theorem d_M_abstraction_70 : decode b_M_abstraction 70 = .ok (.iload 4, 2) := by decide +kernel
theorem d_M_abstraction_72 : decode b_M_abstraction 72 = .ok (.iconst (-1), 1) := by decide +kernel
theorem d_M_abstraction_73 : decode b_M_abstraction 73 = .ok (.invokevirtual 111, 3) := by decide +kernel
theorem d_M_abstraction_76 : decode b_M_abstraction 76 = .ok (.aload_n 0, 1) := by decide +kernel
theorem d_M_abstraction_77 : decode b_M_abstraction 77 = .ok (.bipush 16, 2) := by decide +kernel
theorem d_M_abstraction_79 : decode b_M_abstraction 79 = .ok (.aload_n 0, 1) := by decide +kernel
theorem d_M_abstraction_80 : decode b_M_abstraction 80 = .ok (.getfield 16, 3) := by decide +kernel
theorem d_M_abstraction_83 : decode b_M_abstraction 83 = .ok (.iload_n 1, 1) := by decide +kernel
theorem d_M_abstraction_84 : decode b_M_abstraction 84 = .ok (.iaload, 1) := by decide +kernel
theorem d_M_abstraction_85 : decode b_M_abstraction 85 = .ok (.iadd, 1) := by decide +kernel
theorem d_M_abstraction_86 : decode b_M_abstraction 86 = .ok (.invokevirtual 68, 3) := by decide +kernel
theorem d_M_abstraction_89 : decode b_M_abstraction 89 = .ok (.aload_n 0, 1) := by decide +kernel
theorem d_M_abstraction_90 : decode b_M_abstraction 90 = .ok (.iload_n 3, 1) := by decide +kernel
theorem d_M_abstraction_91 : decode b_M_abstraction 91 = .ok (.iload 4, 2) := by decide +kernel
theorem d_M_abstraction_93 : decode b_M_abstraction 93 = .ok (.iconst (-1), 1) := by decide +kernel
theorem d_M_abstraction_94 : decode b_M_abstraction 94 = .ok (.invokevirtual 111, 3) := by decide +kernel
theorem d_M_abstraction_97 : decode b_M_abstraction 97 = .ok (.iconst 0, 1) := by decide +kernel
theorem d_M_abstraction_98 : decode b_M_abstraction 98 = .ok (.ireturn, 1) := by decide +kernel
theorem d_M_two_0 : decode b_M_two 0 = .ok (.aload_n 0, 1) := by decide +kernel
theorem d_M_two_1 : decode b_M_two 1 = .ok (.getfield 7, 3) := by decide +kernel
theorem d_M_two_4 : decode b_M_two 4 = .ok (.iload 4, 2) := by decide +kernel
theorem d_M_two_6 : decode b_M_two 6 = .ok (.iaload, 1) := by decide +kernel
theorem d_M_two_7 : decode b_M_two 7 = .ok (.iconst 3, 1) := by decide +kernel
theorem d_M_two_8 : decode b_M_two 8 = .ok (.if_icmp .eq 6, 3) := by decide +kernel
theorem d_M_two_11 : decode b_M_two 11 = .ok (.bipush (-2), 2) := by decide +kernel
theorem d_M_two_13 : decode b_M_two 13 = .ok (.ireturn, 1) := by decide +kernel
theorem d_M_two_14 : decode b_M_two 14 = .ok (.iload 4, 2) := by decide +kernel
theorem d_M_two_16 : decode b_M_two 16 = .ok (.iconst 1, 1) := by decide +kernel
theorem d_M_two_17 : decode b_M_two 17 = .ok (.iadd, 1) := by decide +kernel
theorem d_M_two_18 : decode b_M_two 18 = .ok (.istore 5, 2) := by decide +kernel
theorem d_M_two_20 : decode b_M_two 20 = .ok (.aload_n 0, 1) := by decide +kernel
theorem d_M_two_21 : decode b_M_two 21 = .ok (.iload 5, 2) := by decide +kernel
theorem d_M_two_23 : decode b_M_two 23 = .ok (.invokevirtual 55, 3) := by decide +kernel
theorem d_M_two_26 : decode b_M_two 26 = .ok (.istore 6, 2) := by decide +kernel
theorem d_M_two_28 : decode b_M_two 28 = .ok (.iload_n 1, 1) := by decide +kernel
theorem d_M_two_29 : decode b_M_two 29 = .ok (.bipush 8, 2) := by decide +kernel
theorem d_M_two_31 : decode b_M_two 31 = .ok (.if_icmp .ne 29, 3) := by decide +kernel
theorem d_M_two_34 : decode b_M_two 34 = .ok (.aload_n 0, 1) := by decide +kernel
theorem d_M_two_35 : decode b_M_two 35 = .ok (.iload_n 3, 1) := by decide +kernel
theorem d_M_two_36 : decode b_M_two 36 = .ok (.iload 5, 2) := by decide +kernel
theorem d_M_two_38 : decode b_M_two 38 = .ok (.invokevirtual 81, 3) := by decide +kernel
theorem d_M_two_41 : decode b_M_two 41 = .ok (.ifCond .ne 6, 3) := by decide +kernel
theorem d_M_two_44 : decode b_M_two 44 = .ok (.bipush (-2), 2) := by decide +kernel
theorem d_M_two_46 : decode b_M_two 46 = .ok (.ireturn, 1) := by decide +kernel
theorem d_M_two_47 : decode b_M_two 47 = .ok (.aload_n 0, 1) := by decide +kernel
theorem d_M_two_48 : decode b_M_two 48 = .ok (.iload_n 2, 1) := by decide +kernel
theorem d_M_two_49 : decode b_M_two 49 = .ok (.invokevirtual 72, 3) := by decide +kernel
theorem d_M_two_52 : decode b_M_two 52 = .ok (.aload_n 0, 1) := by decide +kernel
theorem d_M_two_53 : decode b_M_two 53 = .ok (.iload 6, 2) := by decide +kernel
theorem d_M_two_55 : decode b_M_two 55 = .ok (.invokevirtual 72, 3) := by decide +kernel
theorem d_M_two_58 : decode b_M_two 58 = .ok (.iconst 0, 1) := by decide +kernel
theorem d_M_two_59 : decode b_M_two 59 = .ok (.ireturn, 1) := by decide +kernel
theorem d_M_two_60 : decode b_M_two 60 = .ok (.aload_n 0, 1) := by decide +kernel
theorem d_M_two_61 : decode b_M_two 61 = .ok (.iload_n 2, 1) := by decide +kernel
theorem d_M_two_62 : decode b_M_two 62 = .ok (.invokevirtual 85, 3) := by decide +kernel
theorem d_M_two_65 : decode b_M_two 65 = .ok (.istore 7, 2) := by decide +kernel
theorem d_M_two_67 : decode b_M_two 67 = .ok (.aload_n 0, 1) := by decide +kernel
theorem d_M_two_68 : decode b_M_two 68 = .ok (.iload 7, 2) := by decide +kernel
theorem d_M_two_70 : decode b_M_two 70 = .ok (.aload_n 0, 1) := by decide +kernel
theorem d_M_two_71 : decode b_M_two 71 = .ok (.iload 5, 2) := by decide +kernel
theorem d_M_two_73 : decode b_M_two 73 = .ok (.invokevirtual 85, 3) := by decide +kernel
theorem d_M_two_76 : decode b_M_two 76 = .ok (.invokevirtual 102, 3) := by decide +kernel
theorem d_M_two_79 : decode b_M_two 79 = .ok (.ifCond .ne 6, 3) := by decide +kernel
theorem d_M_two_82 : decode b_M_two 82 = .ok (.bipush (-2), 2) := by decide +kernel
theorem d_M_two_84 : decode b_M_two 84 = .ok (.ireturn, 1) := by decide +kernel
theorem d_M_two_85 : decode b_M_two 85 = .ok (.aload_n 0, 1) := by decide +kernel
theorem d_M_two_86 : decode b_M_two 86 = .ok (.iconst 1, 1) := by decide +kernel
theorem d_M_two_87 : decode b_M_two 87 = .ok (.invokevirtual 68, 3) := by decide +kernel
theorem d_M_two_90 : decode b_M_two 90 = .ok (.aload_n 0, 1) := by decide +kernel
theorem d_M_two_91 : decode b_M_two 91 = .ok (.iload_n 2, 1) := by decide +kernel
theorem d_M_two_92 : decode b_M_two 92 = .ok (.invokevirtual 72, 3) := by decide +kernel
theorem d_M_two_95 : decode b_M_two 95 = .ok (.aload_n 0, 1) := by decide +kernel
theorem d_M_two_96 : decode b_M_two 96 = .ok (.iload 5, 2) := by decide +kernel
theorem d_M_two_98 : decode b_M_two 98 = .ok (.invokevirtual 72, 3) := by decide +kernel
theorem d_M_two_101 : decode b_M_two 101 = .ok (.aload_n 0, 1) := by decide +kernel
theorem d_M_two_102 : decode b_M_two 102 = .ok (.iconst 1, 1) := by decide +kernel
theorem d_M_two_103 : decode b_M_two 103 = .ok (.invokevirtual 68, 3) := by decide +kernel
theorem d_M_two_106 : decode b_M_two 106 = .ok (.aload_n 0, 1) := by decide +kernel
theorem d_M_two_107 : decode b_M_two 107 = .ok (.iload_n 3, 1) := by decide +kernel
theorem d_M_two_108 : decode b_M_two 108 = .ok (.invokevirtual 72, 3) := by decide +kernel
theorem d_M_two_111 : decode b_M_two 111 = .ok (.aload_n 0, 1) := by decide +kernel
theorem d_M_two_112 : decode b_M_two 112 = .ok (.iload 6, 2) := by decide +kernel
theorem d_M_two_114 : decode b_M_two 114 = .ok (.invokevirtual 72, 3) := by decide +kernel
theorem d_M_two_117 : decode b_M_two 117 = .ok (.iconst 0, 1) := by decide +kernel
theorem d_M_two_118 : decode b_M_two 118 = .ok (.ireturn, 1) := by decide +kernel
theorem d_M_substitute_0 : decode b_M_substitute 0 = .ok (.aload_n 0, 1) := by decide +kernel
theorem d_M_substitute_1 : decode b_M_substitute 1 = .ok (.iload_n 2, 1) := by decide +kernel
theorem d_M_substitute_2 : decode b_M_substitute 2 = .ok (.invokevirtual 105, 3) := by decide +kernel
theorem d_M_substitute_5 : decode b_M_substitute 5 = .ok (.ifCond .eq 18, 3) := by decide +kernel
theorem d_M_substitute_8 : decode b_M_substitute 8 = .ok (.aload_n 0, 1) := by decide +kernel
theorem d_M_substitute_9 : decode b_M_substitute 9 = .ok (.getfield 16, 3) := by decide +kernel
theorem d_M_substitute_12 : decode b_M_substitute 12 = .ok (.iload_n 2, 1) := by decide +kernel
theorem d_M_substitute_13 : decode b_M_substitute 13 = .ok (.iaload, 1) := by decide +kernel
theorem d_M_substitute_14 : decode b_M_substitute 14 = .ok (.aload_n 0, 1) := by decide +kernel
theorem d_M_substitute_15 : decode b_M_substitute 15 = .ok (.getfield 16, 3) := by decide +kernel
theorem d_M_substitute_18 : decode b_M_substitute 18 = .ok (.iload_n 3, 1) := by decide +kernel
theorem d_M_substitute_19 : decode b_M_substitute 19 = .ok (.iaload, 1) := by decide +kernel
theorem d_M_substitute_20 : decode b_M_substitute 20 = .ok (.if_icmp .eq 6, 3) := by decide +kernel
theorem d_M_substitute_23 : decode b_M_substitute 23 = .ok (.bipush (-2), 2) := by decide +kernel
theorem d_M_substitute_25 : decode b_M_substitute 25 = .ok (.ireturn, 1) := by decide +kernel
theorem d_M_substitute_26 : decode b_M_substitute 26 = .ok (.aload_n 0, 1) := by decide +kernel
theorem d_M_substitute_27 : decode b_M_substitute 27 = .ok (.getfield 7, 3) := by decide +kernel
theorem d_M_substitute_30 : decode b_M_substitute 30 = .ok (.bipush 32, 2) := by decide +kernel
theorem d_M_substitute_32 : decode b_M_substitute 32 = .ok (.iload_n 2, 1) := by decide +kernel
theorem d_M_substitute_33 : decode b_M_substitute 33 = .ok (.imul, 1) := by decide +kernel
theorem d_M_substitute_34 : decode b_M_substitute 34 = .ok (.iaload, 1) := by decide +kernel
theorem d_M_substitute_35 : decode b_M_substitute 35 = .ok (.istore 4, 2) := by decide +kernel
theorem d_M_substitute_37 : decode b_M_substitute 37 = .ok (.aload_n 0, 1) := by decide +kernel
theorem d_M_substitute_38 : decode b_M_substitute 38 = .ok (.getfield 118, 3) := by decide +kernel
theorem d_M_substitute_41 : decode b_M_substitute 41 = .ok (.lstore 5, 2) := by decide +kernel
theorem d_M_substitute_43 : decode b_M_substitute 43 = .ok (.aload_n 0, 1) := by decide +kernel
theorem d_M_substitute_44 : decode b_M_substitute 44 = .ok (.lconst 0, 1) := by decide +kernel
theorem d_M_substitute_45 : decode b_M_substitute 45 = .ok (.putfield 118, 3) := by decide +kernel
theorem d_M_substitute_48 : decode b_M_substitute 48 = .ok (.aload_n 0, 1) := by decide +kernel
theorem d_M_substitute_49 : decode b_M_substitute 49 = .ok (.getfield 78, 3) := by decide +kernel
theorem d_M_substitute_52 : decode b_M_substitute 52 = .ok (.istore 7, 2) := by decide +kernel
theorem d_M_substitute_54 : decode b_M_substitute 54 = .ok (.iconst 0, 1) := by decide +kernel
theorem d_M_substitute_55 : decode b_M_substitute 55 = .ok (.istore 8, 2) := by decide +kernel
theorem d_M_substitute_57 : decode b_M_substitute 57 = .ok (.iload 8, 2) := by decide +kernel
theorem d_M_substitute_59 : decode b_M_substitute 59 = .ok (.iload 7, 2) := by decide +kernel
theorem d_M_substitute_61 : decode b_M_substitute 61 = .ok (.if_icmp .ge 68, 3) := by decide +kernel
theorem d_M_substitute_64 : decode b_M_substitute 64 = .ok (.lload 5, 2) := by decide +kernel
theorem d_M_substitute_66 : decode b_M_substitute 66 = .ok (.iload 8, 2) := by decide +kernel
theorem d_M_substitute_68 : decode b_M_substitute 68 = .ok (.lshr, 1) := by decide +kernel
theorem d_M_substitute_69 : decode b_M_substitute 69 = .ok (.lconst 1, 1) := by decide +kernel
theorem d_M_substitute_70 : decode b_M_substitute 70 = .ok (.land, 1) := by decide +kernel
theorem d_M_substitute_71 : decode b_M_substitute 71 = .ok (.lconst 1, 1) := by decide +kernel
theorem d_M_substitute_72 : decode b_M_substitute 72 = .ok (.lcmp, 1) := by decide +kernel
theorem d_M_substitute_73 : decode b_M_substitute 73 = .ok (.ifCond .ne 50, 3) := by decide +kernel
theorem d_M_substitute_76 : decode b_M_substitute 76 = .ok (.aload_n 0, 1) := by decide +kernel
theorem d_M_substitute_77 : decode b_M_substitute 77 = .ok (.iconst 0, 1) := by decide +kernel
theorem d_M_substitute_78 : decode b_M_substitute 78 = .ok (.putfield 65, 3) := by decide +kernel
theorem d_M_substitute_81 : decode b_M_substitute 81 = .ok (.aload_n 0, 1) := by decide +kernel
theorem d_M_substitute_82 : decode b_M_substitute 82 = .ok (.bipush 32, 2) := by decide +kernel
theorem d_M_substitute_84 : decode b_M_substitute 84 = .ok (.iload 8, 2) := by decide +kernel
theorem d_M_substitute_86 : decode b_M_substitute 86 = .ok (.imul, 1) := by decide +kernel
theorem d_M_substitute_87 : decode b_M_substitute 87 = .ok (.iload 4, 2) := by decide +kernel
theorem d_M_substitute_89 : decode b_M_substitute 89 = .ok (.bipush 32, 2) := by decide +kernel
theorem d_M_substitute_91 : decode b_M_substitute 91 = .ok (.iload_n 3, 1) := by decide +kernel
theorem d_M_substitute_92 : decode b_M_substitute 92 = .ok (.imul, 1) := by decide +kernel
theorem d_M_substitute_93 : decode b_M_substitute 93 = .ok (.invokevirtual 111, 3) := by decide +kernel
theorem d_M_substitute_96 : decode b_M_substitute 96 = .ok (.aload_n 0, 1) := by decide +kernel
theorem d_M_substitute_97 : decode b_M_substitute 97 = .ok (.invokevirtual 95, 3) := by decide +kernel
theorem d_M_substitute_100 : decode b_M_substitute 100 = .ok (.istore 9, 2) := by decide +kernel
theorem d_M_substitute_102 : decode b_M_substitute 102 = .ok (.iload 9, 2) := by decide +kernel
theorem d_M_substitute_104 : decode b_M_substitute 104 = .ok (.ifCond .ge 6, 3) := by decide +kernel
theorem d_M_substitute_107 : decode b_M_substitute 107 = .ok (.bipush (-4), 2) := by decide +kernel
theorem d_M_substitute_109 : decode b_M_substitute 109 = .ok (.ireturn, 1) := by decide +kernel
theorem d_M_substitute_110 : decode b_M_substitute 110 = .ok (.aload_n 0, 1) := by decide +kernel
theorem d_M_substitute_111 : decode b_M_substitute 111 = .ok (.aload_n 0, 1) := by decide +kernel
theorem d_M_substitute_112 : decode b_M_substitute 112 = .ok (.getfield 118, 3) := by decide +kernel
theorem d_M_substitute_115 : decode b_M_substitute 115 = .ok (.lconst 1, 1) := by decide +kernel
theorem d_M_substitute_116 : decode b_M_substitute 116 = .ok (.iload 9, 2) := by decide +kernel
theorem d_M_substitute_118 : decode b_M_substitute 118 = .ok (.lshl, 1) := by decide +kernel
theorem d_M_substitute_119 : decode b_M_substitute 119 = .ok (.lor, 1) := by decide +kernel
theorem d_M_substitute_120 : decode b_M_substitute 120 = .ok (.putfield 118, 3) := by decide +kernel
theorem d_M_substitute_123 : decode b_M_substitute 123 = .ok (.iinc 8 1, 3) := by decide +kernel
theorem d_M_substitute_126 : decode b_M_substitute 126 = .ok (.goto (-69), 3) := by decide +kernel
theorem d_M_substitute_129 : decode b_M_substitute 129 = .ok (.aload_n 0, 1) := by decide +kernel
theorem d_M_substitute_130 : decode b_M_substitute 130 = .ok (.iconst 0, 1) := by decide +kernel
theorem d_M_substitute_131 : decode b_M_substitute 131 = .ok (.putfield 65, 3) := by decide +kernel
theorem d_M_substitute_134 : decode b_M_substitute 134 = .ok (.aload_n 0, 1) := by decide +kernel
theorem d_M_substitute_135 : decode b_M_substitute 135 = .ok (.bipush 32, 2) := by decide +kernel
theorem d_M_substitute_137 : decode b_M_substitute 137 = .ok (.aload_n 0, 1) := by decide +kernel
theorem d_M_substitute_138 : decode b_M_substitute 138 = .ok (.getfield 39, 3) := by decide +kernel
theorem d_M_substitute_141 : decode b_M_substitute 141 = .ok (.iload_n 1, 1) := by decide +kernel
theorem d_M_substitute_142 : decode b_M_substitute 142 = .ok (.iaload, 1) := by decide +kernel
theorem d_M_substitute_143 : decode b_M_substitute 143 = .ok (.imul, 1) := by decide +kernel
theorem d_M_substitute_144 : decode b_M_substitute 144 = .ok (.iload 4, 2) := by decide +kernel
theorem d_M_substitute_146 : decode b_M_substitute 146 = .ok (.bipush 32, 2) := by decide +kernel
theorem d_M_substitute_148 : decode b_M_substitute 148 = .ok (.iload_n 3, 1) := by decide +kernel
theorem d_M_substitute_149 : decode b_M_substitute 149 = .ok (.imul, 1) := by decide +kernel
theorem d_M_substitute_150 : decode b_M_substitute 150 = .ok (.invokevirtual 111, 3) := by decide +kernel
theorem d_M_substitute_153 : decode b_M_substitute 153 = .ok (.iconst 0, 1) := by decide +kernel
theorem d_M_substitute_154 : decode b_M_substitute 154 = .ok (.ireturn, 1) := by decide +kernel
theorem d_M_rule_0 : decode b_M_rule 0 = .ok (.iload_n 1, 1) := by decide +kernel
theorem d_M_rule_1 : decode b_M_rule 1 = .ok (.ifCond .lt 19, 3) := by decide +kernel
theorem d_M_rule_4 : decode b_M_rule 4 = .ok (.iload_n 1, 1) := by decide +kernel
theorem d_M_rule_5 : decode b_M_rule 5 = .ok (.bipush 13, 2) := by decide +kernel
theorem d_M_rule_7 : decode b_M_rule 7 = .ok (.if_icmp .gt 13, 3) := by decide +kernel
theorem d_M_rule_10 : decode b_M_rule 10 = .ok (.aload_n 0, 1) := by decide +kernel
theorem d_M_rule_11 : decode b_M_rule 11 = .ok (.iload_n 1, 1) := by decide +kernel
theorem d_M_rule_12 : decode b_M_rule 12 = .ok (.iload_n 2, 1) := by decide +kernel
theorem d_M_rule_13 : decode b_M_rule 13 = .ok (.iload_n 3, 1) := by decide +kernel
theorem d_M_rule_14 : decode b_M_rule 14 = .ok (.invokevirtual 148, 3) := by decide +kernel
theorem d_M_rule_17 : decode b_M_rule 17 = .ok (.ifCond .ne 5, 3) := by decide +kernel
theorem d_M_rule_20 : decode b_M_rule 20 = .ok (.iconst (-1), 1) := by decide +kernel
theorem d_M_rule_21 : decode b_M_rule 21 = .ok (.ireturn, 1) := by decide +kernel
theorem d_M_rule_22 : decode b_M_rule 22 = .ok (.iload_n 1, 1) := by decide +kernel
theorem d_M_rule_23 : decode b_M_rule 23 = .ok (.invokestatic 125, 3) := by decide +kernel
theorem d_M_rule_26 : decode b_M_rule 26 = .ok (.istore 4, 2) := by decide +kernel
theorem d_M_rule_28 : decode b_M_rule 28 = .ok (.aload_n 0, 1) := by decide +kernel
theorem d_M_rule_29 : decode b_M_rule 29 = .ok (.getfield 78, 3) := by decide +kernel
theorem d_M_rule_32 : decode b_M_rule 32 = .ok (.istore 5, 2) := by decide +kernel
theorem d_M_rule_34 : decode b_M_rule 34 = .ok (.aload_n 0, 1) := by decide +kernel
theorem d_M_rule_35 : decode b_M_rule 35 = .ok (.getfield 22, 3) := by decide +kernel
theorem d_M_rule_38 : decode b_M_rule 38 = .ok (.istore 6, 2) := by decide +kernel
theorem d_M_rule_40 : decode b_M_rule 40 = .ok (.aload_n 0, 1) := by decide +kernel
theorem d_M_rule_41 : decode b_M_rule 41 = .ok (.iload 4, 2) := by decide +kernel
theorem d_M_rule_43 : decode b_M_rule 43 = .ok (.ifCond .le 12, 3) := by decide +kernel
theorem d_M_rule_46 : decode b_M_rule 46 = .ok (.aload_n 0, 1) := by decide +kernel
theorem d_M_rule_47 : decode b_M_rule 47 = .ok (.getfield 35, 3) := by decide +kernel
theorem d_M_rule_50 : decode b_M_rule 50 = .ok (.iload_n 2, 1) := by decide +kernel
theorem d_M_rule_51 : decode b_M_rule 51 = .ok (.laload, 1) := by decide +kernel
theorem d_M_rule_52 : decode b_M_rule 52 = .ok (.goto 4, 3) := by decide +kernel
theorem d_M_rule_55 : decode b_M_rule 55 = .ok (.lconst 0, 1) := by decide +kernel
theorem d_M_rule_56 : decode b_M_rule 56 = .ok (.iload 4, 2) := by decide +kernel
theorem d_M_rule_58 : decode b_M_rule 58 = .ok (.iconst 1, 1) := by decide +kernel
theorem d_M_rule_59 : decode b_M_rule 59 = .ok (.if_icmp .le 12, 3) := by decide +kernel
theorem d_M_rule_62 : decode b_M_rule 62 = .ok (.aload_n 0, 1) := by decide +kernel
theorem d_M_rule_63 : decode b_M_rule 63 = .ok (.getfield 35, 3) := by decide +kernel
theorem d_M_rule_66 : decode b_M_rule 66 = .ok (.iload_n 3, 1) := by decide +kernel
theorem d_M_rule_67 : decode b_M_rule 67 = .ok (.laload, 1) := by decide +kernel
theorem d_M_rule_68 : decode b_M_rule 68 = .ok (.goto 4, 3) := by decide +kernel
theorem d_M_rule_71 : decode b_M_rule 71 = .ok (.lconst 0, 1) := by decide +kernel
theorem d_M_rule_72 : decode b_M_rule 72 = .ok (.lor, 1) := by decide +kernel
theorem d_M_rule_73 : decode b_M_rule 73 = .ok (.putfield 118, 3) := by decide +kernel
theorem d_M_rule_76 : decode b_M_rule 76 = .ok (.aload_n 0, 1) := by decide +kernel
theorem d_M_rule_77 : decode b_M_rule 77 = .ok (.iconst 0, 1) := by decide +kernel
theorem d_M_rule_78 : decode b_M_rule 78 = .ok (.putfield 65, 3) := by decide +kernel
theorem d_M_rule_81 : decode b_M_rule 81 = .ok (.iload_n 1, 1) := by decide +kernel
theorem d_M_rule_82 : decode b_M_rule 82 = .ok (.bipush 13, 2) := by decide +kernel
theorem d_M_rule_84 : decode b_M_rule 84 = .ok (.if_icmp .ne 19, 3) := by decide +kernel
theorem d_M_rule_87 : decode b_M_rule 87 = .ok (.aload_n 0, 1) := by decide +kernel
theorem d_M_rule_88 : decode b_M_rule 88 = .ok (.iload_n 2, 1) := by decide +kernel
theorem d_M_rule_89 : decode b_M_rule 89 = .ok (.iload_n 3, 1) := by decide +kernel
theorem d_M_rule_90 : decode b_M_rule 90 = .ok (.bipush 64, 2) := by decide +kernel
theorem d_M_rule_92 : decode b_M_rule 92 = .ok (.idiv, 1) := by decide +kernel
theorem d_M_rule_93 : decode b_M_rule 93 = .ok (.iload_n 3, 1) := by decide +kernel
theorem d_M_rule_94 : decode b_M_rule 94 = .ok (.bipush 64, 2) := by decide +kernel
theorem d_M_rule_96 : decode b_M_rule 96 = .ok (.irem, 1) := by decide +kernel
theorem d_M_rule_97 : decode b_M_rule 97 = .ok (.invokevirtual 152, 3) := by decide +kernel
theorem d_M_rule_100 : decode b_M_rule 100 = .ok (.goto 32, 3) := by decide +kernel
theorem d_M_rule_103 : decode b_M_rule 103 = .ok (.iload_n 1, 1) := by decide +kernel
theorem d_M_rule_104 : decode b_M_rule 104 = .ok (.bipush 6, 2) := by decide +kernel
theorem d_M_rule_106 : decode b_M_rule 106 = .ok (.if_icmp .lt 9, 3) := by decide +kernel
theorem d_M_rule_109 : decode b_M_rule 109 = .ok (.iload_n 1, 1) := by decide +kernel
theorem d_M_rule_110 : decode b_M_rule 110 = .ok (.bipush 12, 2) := by decide +kernel
theorem d_M_rule_112 : decode b_M_rule 112 = .ok (.if_icmp .ne 13, 3) := by decide +kernel
theorem d_M_rule_115 : decode b_M_rule 115 = .ok (.aload_n 0, 1) := by decide +kernel
theorem d_M_rule_116 : decode b_M_rule 116 = .ok (.iload_n 1, 1) := by decide +kernel
theorem d_M_rule_117 : decode b_M_rule 117 = .ok (.iload_n 2, 1) := by decide +kernel
theorem d_M_rule_118 : decode b_M_rule 118 = .ok (.iload_n 3, 1) := by decide +kernel
theorem d_M_rule_119 : decode b_M_rule 119 = .ok (.invokevirtual 155, 3) := by decide +kernel
theorem d_M_rule_122 : decode b_M_rule 122 = .ok (.goto 10, 3) := by decide +kernel
theorem d_M_rule_125 : decode b_M_rule 125 = .ok (.aload_n 0, 1) := by decide +kernel
theorem d_M_rule_126 : decode b_M_rule 126 = .ok (.iload_n 1, 1) := by decide +kernel
theorem d_M_rule_127 : decode b_M_rule 127 = .ok (.iload_n 2, 1) := by decide +kernel
theorem d_M_rule_128 : decode b_M_rule 128 = .ok (.iload_n 3, 1) := by decide +kernel
theorem d_M_rule_129 : decode b_M_rule 129 = .ok (.invokevirtual 158, 3) := by decide +kernel
theorem d_M_rule_132 : decode b_M_rule 132 = .ok (.istore 7, 2) := by decide +kernel
theorem d_M_rule_134 : decode b_M_rule 134 = .ok (.iload 7, 2) := by decide +kernel
theorem d_M_rule_136 : decode b_M_rule 136 = .ok (.ifCond .ne 17, 3) := by decide +kernel
theorem d_M_rule_139 : decode b_M_rule 139 = .ok (.aload_n 0, 1) := by decide +kernel
theorem d_M_rule_140 : decode b_M_rule 140 = .ok (.getfield 115, 3) := by decide +kernel
theorem d_M_rule_143 : decode b_M_rule 143 = .ok (.bipush 40, 2) := by decide +kernel
theorem d_M_rule_145 : decode b_M_rule 145 = .ok (.if_icmp .ne 8, 3) := by decide +kernel
theorem d_M_rule_148 : decode b_M_rule 148 = .ok (.bipush (-4), 2) := by decide +kernel
theorem d_M_rule_150 : decode b_M_rule 150 = .ok (.goto 5, 3) := by decide +kernel
theorem d_M_rule_153 : decode b_M_rule 153 = .ok (.iload 7, 2) := by decide +kernel
theorem d_M_rule_155 : decode b_M_rule 155 = .ok (.istore 7, 2) := by decide +kernel
theorem d_M_rule_157 : decode b_M_rule 157 = .ok (.iload 7, 2) := by decide +kernel
theorem d_M_rule_159 : decode b_M_rule 159 = .ok (.ifCond .ne 10, 3) := by decide +kernel
theorem d_M_rule_162 : decode b_M_rule 162 = .ok (.aload_n 0, 1) := by decide +kernel
theorem d_M_rule_163 : decode b_M_rule 163 = .ok (.invokevirtual 95, 3) := by decide +kernel
theorem d_M_rule_166 : decode b_M_rule 166 = .ok (.goto 5, 3) := by decide +kernel
theorem d_M_rule_169 : decode b_M_rule 169 = .ok (.iload 7, 2) := by decide +kernel
theorem d_M_rule_171 : decode b_M_rule 171 = .ok (.istore 8, 2) := by decide +kernel
theorem d_M_rule_173 : decode b_M_rule 173 = .ok (.iload 8, 2) := by decide +kernel
theorem d_M_rule_175 : decode b_M_rule 175 = .ok (.ifCond .ge 18, 3) := by decide +kernel
theorem d_M_rule_178 : decode b_M_rule 178 = .ok (.aload_n 0, 1) := by decide +kernel
theorem d_M_rule_179 : decode b_M_rule 179 = .ok (.iload 5, 2) := by decide +kernel
theorem d_M_rule_181 : decode b_M_rule 181 = .ok (.putfield 78, 3) := by decide +kernel
theorem d_M_rule_184 : decode b_M_rule 184 = .ok (.aload_n 0, 1) := by decide +kernel
theorem d_M_rule_185 : decode b_M_rule 185 = .ok (.iload 6, 2) := by decide +kernel
theorem d_M_rule_187 : decode b_M_rule 187 = .ok (.putfield 22, 3) := by decide +kernel
theorem d_M_rule_190 : decode b_M_rule 190 = .ok (.iload 8, 2) := by decide +kernel
theorem d_M_rule_192 : decode b_M_rule 192 = .ok (.ireturn, 1) := by decide +kernel
theorem d_M_rule_193 : decode b_M_rule 193 = .ok (.aload_n 0, 1) := by decide +kernel
theorem d_M_rule_194 : decode b_M_rule 194 = .ok (.getfield 115, 3) := by decide +kernel
theorem d_M_rule_197 : decode b_M_rule 197 = .ok (.istore 9, 2) := by decide +kernel
theorem d_M_rule_199 : decode b_M_rule 199 = .ok (.aload_n 0, 1) := by decide +kernel
theorem d_M_rule_200 : decode b_M_rule 200 = .ok (.getfield 35, 3) := by decide +kernel
theorem d_M_rule_203 : decode b_M_rule 203 = .ok (.iload 9, 2) := by decide +kernel
theorem d_M_rule_205 : decode b_M_rule 205 = .ok (.aload_n 0, 1) := by decide +kernel
theorem d_M_rule_206 : decode b_M_rule 206 = .ok (.getfield 118, 3) := by decide +kernel
theorem d_M_rule_209 : decode b_M_rule 209 = .ok (.lastore, 1) := by decide +kernel
theorem d_M_rule_210 : decode b_M_rule 210 = .ok (.aload_n 0, 1) := by decide +kernel
theorem d_M_rule_211 : decode b_M_rule 211 = .ok (.getfield 39, 3) := by decide +kernel
theorem d_M_rule_214 : decode b_M_rule 214 = .ok (.iload 9, 2) := by decide +kernel
theorem d_M_rule_216 : decode b_M_rule 216 = .ok (.iload 8, 2) := by decide +kernel
theorem d_M_rule_218 : decode b_M_rule 218 = .ok (.iastore, 1) := by decide +kernel
theorem d_M_rule_219 : decode b_M_rule 219 = .ok (.aload_n 0, 1) := by decide +kernel
theorem d_M_rule_220 : decode b_M_rule 220 = .ok (.getfield 42, 3) := by decide +kernel
theorem d_M_rule_223 : decode b_M_rule 223 = .ok (.iload 9, 2) := by decide +kernel
theorem d_M_rule_225 : decode b_M_rule 225 = .ok (.iload 4, 2) := by decide +kernel
theorem d_M_rule_227 : decode b_M_rule 227 = .ok (.ifCond .le 12, 3) := by decide +kernel
theorem d_M_rule_230 : decode b_M_rule 230 = .ok (.aload_n 0, 1) := by decide +kernel
theorem d_M_rule_231 : decode b_M_rule 231 = .ok (.getfield 42, 3) := by decide +kernel
theorem d_M_rule_234 : decode b_M_rule 234 = .ok (.iload_n 2, 1) := by decide +kernel
theorem d_M_rule_235 : decode b_M_rule 235 = .ok (.laload, 1) := by decide +kernel
theorem d_M_rule_236 : decode b_M_rule 236 = .ok (.goto 4, 3) := by decide +kernel
theorem d_M_rule_239 : decode b_M_rule 239 = .ok (.lconst 0, 1) := by decide +kernel
theorem d_M_rule_240 : decode b_M_rule 240 = .ok (.iload 4, 2) := by decide +kernel
theorem d_M_rule_242 : decode b_M_rule 242 = .ok (.iconst 1, 1) := by decide +kernel
theorem d_M_rule_243 : decode b_M_rule 243 = .ok (.if_icmp .le 12, 3) := by decide +kernel
theorem d_M_rule_246 : decode b_M_rule 246 = .ok (.aload_n 0, 1) := by decide +kernel
theorem d_M_rule_247 : decode b_M_rule 247 = .ok (.getfield 42, 3) := by decide +kernel
theorem d_M_rule_250 : decode b_M_rule 250 = .ok (.iload_n 3, 1) := by decide +kernel
theorem d_M_rule_251 : decode b_M_rule 251 = .ok (.laload, 1) := by decide +kernel
theorem d_M_rule_252 : decode b_M_rule 252 = .ok (.goto 4, 3) := by decide +kernel
theorem d_M_rule_255 : decode b_M_rule 255 = .ok (.lconst 0, 1) := by decide +kernel
theorem d_M_rule_256 : decode b_M_rule 256 = .ok (.lor, 1) := by decide +kernel
theorem d_M_rule_257 : decode b_M_rule 257 = .ok (.iload_n 1, 1) := by decide +kernel
theorem d_M_rule_258 : decode b_M_rule 258 = .ok (.ifCond .ne 10, 3) := by decide +kernel
theorem d_M_rule_261 : decode b_M_rule 261 = .ok (.lconst 1, 1) := by decide +kernel
theorem d_M_rule_262 : decode b_M_rule 262 = .ok (.iload 9, 2) := by decide +kernel
theorem d_M_rule_264 : decode b_M_rule 264 = .ok (.lshl, 1) := by decide +kernel
theorem d_M_rule_265 : decode b_M_rule 265 = .ok (.goto 4, 3) := by decide +kernel
theorem d_M_rule_268 : decode b_M_rule 268 = .ok (.lconst 0, 1) := by decide +kernel
theorem d_M_rule_269 : decode b_M_rule 269 = .ok (.lor, 1) := by decide +kernel
theorem d_M_rule_270 : decode b_M_rule 270 = .ok (.lastore, 1) := by decide +kernel
theorem d_M_rule_271 : decode b_M_rule 271 = .ok (.iconst 1, 1) := by decide +kernel
theorem d_M_rule_272 : decode b_M_rule 272 = .ok (.iload 4, 2) := by decide +kernel
theorem d_M_rule_274 : decode b_M_rule 274 = .ok (.ifCond .le 12, 3) := by decide +kernel
theorem d_M_rule_277 : decode b_M_rule 277 = .ok (.aload_n 0, 1) := by decide +kernel
theorem d_M_rule_278 : decode b_M_rule 278 = .ok (.getfield 45, 3) := by decide +kernel
theorem d_M_rule_281 : decode b_M_rule 281 = .ok (.iload_n 2, 1) := by decide +kernel
theorem d_M_rule_282 : decode b_M_rule 282 = .ok (.iaload, 1) := by decide +kernel
theorem d_M_rule_283 : decode b_M_rule 283 = .ok (.goto 4, 3) := by decide +kernel
theorem d_M_rule_286 : decode b_M_rule 286 = .ok (.iconst 0, 1) := by decide +kernel
theorem d_M_rule_287 : decode b_M_rule 287 = .ok (.iadd, 1) := by decide +kernel
theorem d_M_rule_288 : decode b_M_rule 288 = .ok (.iload 4, 2) := by decide +kernel
theorem d_M_rule_290 : decode b_M_rule 290 = .ok (.iconst 1, 1) := by decide +kernel
theorem d_M_rule_291 : decode b_M_rule 291 = .ok (.if_icmp .le 12, 3) := by decide +kernel
theorem d_M_rule_294 : decode b_M_rule 294 = .ok (.aload_n 0, 1) := by decide +kernel
theorem d_M_rule_295 : decode b_M_rule 295 = .ok (.getfield 45, 3) := by decide +kernel
theorem d_M_rule_298 : decode b_M_rule 298 = .ok (.iload_n 3, 1) := by decide +kernel
theorem d_M_rule_299 : decode b_M_rule 299 = .ok (.iaload, 1) := by decide +kernel
theorem d_M_rule_300 : decode b_M_rule 300 = .ok (.goto 4, 3) := by decide +kernel
theorem d_M_rule_303 : decode b_M_rule 303 = .ok (.iconst 0, 1) := by decide +kernel
theorem d_M_rule_304 : decode b_M_rule 304 = .ok (.iadd, 1) := by decide +kernel
theorem d_M_rule_305 : decode b_M_rule 305 = .ok (.istore 10, 2) := by decide +kernel
theorem d_M_rule_307 : decode b_M_rule 307 = .ok (.aload_n 0, 1) := by decide +kernel
theorem d_M_rule_308 : decode b_M_rule 308 = .ok (.getfield 45, 3) := by decide +kernel
theorem d_M_rule_311 : decode b_M_rule 311 = .ok (.iload 9, 2) := by decide +kernel
theorem d_M_rule_313 : decode b_M_rule 313 = .ok (.iload 10, 2) := by decide +kernel
theorem d_M_rule_315 : decode b_M_rule 315 = .ok (.ldc 161, 2) := by decide +kernel
theorem d_M_rule_317 : decode b_M_rule 317 = .ok (.if_icmp .le 8, 3) := by decide +kernel
theorem d_M_rule_320 : decode b_M_rule 320 = .ok (.ldc 161, 2) := by decide +kernel
theorem d_M_rule_322 : decode b_M_rule 322 = .ok (.goto 5, 3) := by decide +kernel
theorem d_M_rule_325 : decode b_M_rule 325 = .ok (.iload 10, 2) := by decide +kernel
theorem d_M_rule_327 : decode b_M_rule 327 = .ok (.iastore, 1) := by decide +kernel
theorem d_M_rule_328 : decode b_M_rule 328 = .ok (.aload_n 0, 1) := by decide +kernel
theorem d_M_rule_329 : decode b_M_rule 329 = .ok (.dup, 1) := by decide +kernel
theorem d_M_rule_330 : decode b_M_rule 330 = .ok (.getfield 115, 3) := by decide +kernel
theorem d_M_rule_333 : decode b_M_rule 333 = .ok (.iconst 1, 1) := by decide +kernel
theorem d_M_rule_334 : decode b_M_rule 334 = .ok (.iadd, 1) := by decide +kernel
theorem d_M_rule_335 : decode b_M_rule 335 = .ok (.putfield 115, 3) := by decide +kernel
theorem d_M_rule_338 : decode b_M_rule 338 = .ok (.iload 9, 2) := by decide +kernel
theorem d_M_rule_340 : decode b_M_rule 340 = .ok (.ireturn, 1) := by decide +kernel
theorem d_M_terms_0 : decode b_M_terms 0 = .ok (.aload_n 0, 1) := by decide +kernel
theorem d_M_terms_1 : decode b_M_terms 1 = .ok (.getfield 78, 3) := by decide +kernel
theorem d_M_terms_4 : decode b_M_terms 4 = .ok (.ireturn, 1) := by decide +kernel
theorem d_M_theorems_0 : decode b_M_theorems 0 = .ok (.aload_n 0, 1) := by decide +kernel
theorem d_M_theorems_1 : decode b_M_theorems 1 = .ok (.getfield 115, 3) := by decide +kernel
theorem d_M_theorems_4 : decode b_M_theorems 4 = .ok (.ireturn, 1) := by decide +kernel
theorem d_M_typeOf_0 : decode b_M_typeOf 0 = .ok (.aload_n 0, 1) := by decide +kernel
theorem d_M_typeOf_1 : decode b_M_typeOf 1 = .ok (.iload_n 1, 1) := by decide +kernel
theorem d_M_typeOf_2 : decode b_M_typeOf 2 = .ok (.invokevirtual 99, 3) := by decide +kernel
theorem d_M_typeOf_5 : decode b_M_typeOf 5 = .ok (.ifCond .eq 12, 3) := by decide +kernel
theorem d_M_typeOf_8 : decode b_M_typeOf 8 = .ok (.aload_n 0, 1) := by decide +kernel
theorem d_M_typeOf_9 : decode b_M_typeOf 9 = .ok (.getfield 16, 3) := by decide +kernel
theorem d_M_typeOf_12 : decode b_M_typeOf 12 = .ok (.iload_n 1, 1) := by decide +kernel
theorem d_M_typeOf_13 : decode b_M_typeOf 13 = .ok (.iaload, 1) := by decide +kernel
theorem d_M_typeOf_14 : decode b_M_typeOf 14 = .ok (.goto 4, 3) := by decide +kernel
theorem d_M_typeOf_17 : decode b_M_typeOf 17 = .ok (.iconst (-1), 1) := by decide +kernel
theorem d_M_typeOf_18 : decode b_M_typeOf 18 = .ok (.ireturn, 1) := by decide +kernel
theorem d_M_size_0 : decode b_M_size 0 = .ok (.aload_n 0, 1) := by decide +kernel
theorem d_M_size_1 : decode b_M_size 1 = .ok (.iload_n 1, 1) := by decide +kernel
theorem d_M_size_2 : decode b_M_size 2 = .ok (.invokevirtual 99, 3) := by decide +kernel
theorem d_M_size_5 : decode b_M_size 5 = .ok (.ifCond .eq 12, 3) := by decide +kernel
theorem d_M_size_8 : decode b_M_size 8 = .ok (.aload_n 0, 1) := by decide +kernel
theorem d_M_size_9 : decode b_M_size 9 = .ok (.getfield 13, 3) := by decide +kernel
theorem d_M_size_12 : decode b_M_size 12 = .ok (.iload_n 1, 1) := by decide +kernel
theorem d_M_size_13 : decode b_M_size 13 = .ok (.iaload, 1) := by decide +kernel
theorem d_M_size_14 : decode b_M_size 14 = .ok (.goto 4, 3) := by decide +kernel
theorem d_M_size_17 : decode b_M_size 17 = .ok (.iconst (-1), 1) := by decide +kernel
theorem d_M_size_18 : decode b_M_size 18 = .ok (.ireturn, 1) := by decide +kernel
theorem d_M_free_0 : decode b_M_free 0 = .ok (.aload_n 0, 1) := by decide +kernel
theorem d_M_free_1 : decode b_M_free 1 = .ok (.iload_n 1, 1) := by decide +kernel
theorem d_M_free_2 : decode b_M_free 2 = .ok (.invokevirtual 99, 3) := by decide +kernel
theorem d_M_free_5 : decode b_M_free 5 = .ok (.ifCond .eq 40, 3) := by decide +kernel
theorem d_M_free_8 : decode b_M_free 8 = .ok (.aload_n 0, 1) := by decide +kernel
theorem d_M_free_9 : decode b_M_free 9 = .ok (.iload_n 2, 1) := by decide +kernel
theorem d_M_free_10 : decode b_M_free 10 = .ok (.invokevirtual 99, 3) := by decide +kernel
theorem d_M_free_13 : decode b_M_free 13 = .ok (.ifCond .eq 32, 3) := by decide +kernel
theorem d_M_free_16 : decode b_M_free 16 = .ok (.aload_n 0, 1) := by decide +kernel
theorem d_M_free_17 : decode b_M_free 17 = .ok (.iload_n 1, 1) := by decide +kernel
theorem d_M_free_18 : decode b_M_free 18 = .ok (.invokevirtual 105, 3) := by decide +kernel
theorem d_M_free_21 : decode b_M_free 21 = .ok (.ifCond .eq 24, 3) := by decide +kernel
theorem d_M_free_24 : decode b_M_free 24 = .ok (.aload_n 0, 1) := by decide +kernel
theorem d_M_free_25 : decode b_M_free 25 = .ok (.aload_n 0, 1) := by decide +kernel
theorem d_M_free_26 : decode b_M_free 26 = .ok (.getfield 7, 3) := by decide +kernel
theorem d_M_free_29 : decode b_M_free 29 = .ok (.bipush 32, 2) := by decide +kernel
theorem d_M_free_31 : decode b_M_free 31 = .ok (.iload_n 1, 1) := by decide +kernel
theorem d_M_free_32 : decode b_M_free 32 = .ok (.imul, 1) := by decide +kernel
theorem d_M_free_33 : decode b_M_free 33 = .ok (.iaload, 1) := by decide +kernel
theorem d_M_free_34 : decode b_M_free 34 = .ok (.iload_n 2, 1) := by decide +kernel
theorem d_M_free_35 : decode b_M_free 35 = .ok (.invokevirtual 122, 3) := by decide +kernel
theorem d_M_free_38 : decode b_M_free 38 = .ok (.ifCond .eq 7, 3) := by decide +kernel
theorem d_M_free_41 : decode b_M_free 41 = .ok (.iconst 1, 1) := by decide +kernel
theorem d_M_free_42 : decode b_M_free 42 = .ok (.goto 4, 3) := by decide +kernel
theorem d_M_free_45 : decode b_M_free 45 = .ok (.iconst 0, 1) := by decide +kernel
theorem d_M_free_46 : decode b_M_free 46 = .ok (.ireturn, 1) := by decide +kernel
theorem d_M_say_0 : decode b_M_say 0 = .ok (.aload_n 0, 1) := by decide +kernel
theorem d_M_say_1 : decode b_M_say 1 = .ok (.getfield 48, 3) := by decide +kernel
theorem d_M_say_4 : decode b_M_say 4 = .ok (.aload_n 0, 1) := by decide +kernel
theorem d_M_say_5 : decode b_M_say 5 = .ok (.getfield 162, 3) := by decide +kernel
theorem d_M_say_8 : decode b_M_say 8 = .ok (.iload_n 1, 1) := by decide +kernel
theorem d_M_say_9 : decode b_M_say 9 = .ok (.iastore, 1) := by decide +kernel
theorem d_M_say_10 : decode b_M_say 10 = .ok (.aload_n 0, 1) := by decide +kernel
theorem d_M_say_11 : decode b_M_say 11 = .ok (.dup, 1) := by decide +kernel
theorem d_M_say_12 : decode b_M_say 12 = .ok (.getfield 162, 3) := by decide +kernel
theorem d_M_say_15 : decode b_M_say 15 = .ok (.iconst 1, 1) := by decide +kernel
theorem d_M_say_16 : decode b_M_say 16 = .ok (.iadd, 1) := by decide +kernel
theorem d_M_say_17 : decode b_M_say 17 = .ok (.putfield 162, 3) := by decide +kernel
theorem d_M_say_20 : decode b_M_say 20 = .ok (.return_, 1) := by decide +kernel
theorem d_M_printed_0 : decode b_M_printed 0 = .ok (.aload_n 0, 1) := by decide +kernel
theorem d_M_printed_1 : decode b_M_printed 1 = .ok (.iload_n 1, 1) := by decide +kernel
theorem d_M_printed_2 : decode b_M_printed 2 = .ok (.invokevirtual 99, 3) := by decide +kernel
theorem d_M_printed_5 : decode b_M_printed 5 = .ok (.ifCond .eq 8, 3) := by decide +kernel
theorem d_M_printed_8 : decode b_M_printed 8 = .ok (.iload_n 2, 1) := by decide +kernel
theorem d_M_printed_9 : decode b_M_printed 9 = .ok (.iconst (-1), 1) := by decide +kernel
theorem d_M_printed_10 : decode b_M_printed 10 = .ok (.if_icmp .ge 5, 3) := by decide +kernel
theorem d_M_printed_13 : decode b_M_printed 13 = .ok (.iconst (-1), 1) := by decide +kernel
theorem d_M_printed_14 : decode b_M_printed 14 = .ok (.ireturn, 1) := by decide +kernel
theorem d_M_printed_15 : decode b_M_printed 15 = .ok (.aload_n 0, 1) := by decide +kernel
theorem d_M_printed_16 : decode b_M_printed 16 = .ok (.iconst 0, 1) := by decide +kernel
theorem d_M_printed_17 : decode b_M_printed 17 = .ok (.putfield 162, 3) := by decide +kernel
theorem d_M_printed_20 : decode b_M_printed 20 = .ok (.bipush 32, 2) := by decide +kernel
theorem d_M_printed_22 : decode b_M_printed 22 = .ok (.iload_n 1, 1) := by decide +kernel
theorem d_M_printed_23 : decode b_M_printed 23 = .ok (.imul, 1) := by decide +kernel
theorem d_M_printed_24 : decode b_M_printed 24 = .ok (.istore_n 3, 1) := by decide +kernel
theorem d_M_printed_25 : decode b_M_printed 25 = .ok (.iload_n 3, 1) := by decide +kernel
theorem d_M_printed_26 : decode b_M_printed 26 = .ok (.bipush 32, 2) := by decide +kernel
theorem d_M_printed_28 : decode b_M_printed 28 = .ok (.iload_n 1, 1) := by decide +kernel
theorem d_M_printed_29 : decode b_M_printed 29 = .ok (.imul, 1) := by decide +kernel
theorem d_M_printed_30 : decode b_M_printed 30 = .ok (.aload_n 0, 1) := by decide +kernel
theorem d_M_printed_31 : decode b_M_printed 31 = .ok (.getfield 13, 3) := by decide +kernel
theorem d_M_printed_34 : decode b_M_printed 34 = .ok (.iload_n 1, 1) := by decide +kernel
theorem d_M_printed_35 : decode b_M_printed 35 = .ok (.iaload, 1) := by decide +kernel
theorem d_M_printed_36 : decode b_M_printed 36 = .ok (.iadd, 1) := by decide +kernel
theorem d_M_printed_37 : decode b_M_printed 37 = .ok (.if_icmp .ge 160, 3) := by decide +kernel
theorem d_M_printed_40 : decode b_M_printed 40 = .ok (.aload_n 0, 1) := by decide +kernel
theorem d_M_printed_41 : decode b_M_printed 41 = .ok (.getfield 7, 3) := by decide +kernel
theorem d_M_printed_44 : decode b_M_printed 44 = .ok (.iload_n 3, 1) := by decide +kernel
theorem d_M_printed_45 : decode b_M_printed 45 = .ok (.iaload, 1) := by decide +kernel
theorem d_M_printed_46 : decode b_M_printed 46 = .ok (.istore 4, 2) := by decide +kernel
theorem d_M_printed_48 : decode b_M_printed 48 = .ok (.iload 4, 2) := by decide +kernel
theorem d_M_printed_50 : decode b_M_printed 50 = .ok (.iconst 1, 1) := by decide +kernel
theorem d_M_printed_51 : decode b_M_printed 51 = .ok (.if_icmp .ne 8, 3) := by decide +kernel
theorem d_M_printed_54 : decode b_M_printed 54 = .ok (.bipush 64, 2) := by decide +kernel
theorem d_M_printed_56 : decode b_M_printed 56 = .ok (.goto 100, 3) := by decide +kernel
theorem d_M_printed_59 : decode b_M_printed 59 = .ok (.iload 4, 2) := by decide +kernel
theorem d_M_printed_61 : decode b_M_printed 61 = .ok (.iconst 2, 1) := by decide +kernel
theorem d_M_printed_62 : decode b_M_printed 62 = .ok (.if_icmp .ne 8, 3) := by decide +kernel
theorem d_M_printed_65 : decode b_M_printed 65 = .ok (.bipush 62, 2) := by decide +kernel
theorem d_M_printed_67 : decode b_M_printed 67 = .ok (.goto 89, 3) := by decide +kernel
theorem d_M_printed_70 : decode b_M_printed 70 = .ok (.iload 4, 2) := by decide +kernel
theorem d_M_printed_72 : decode b_M_printed 72 = .ok (.iconst 3, 1) := by decide +kernel
theorem d_M_printed_73 : decode b_M_printed 73 = .ok (.if_icmp .ne 8, 3) := by decide +kernel
theorem d_M_printed_76 : decode b_M_printed 76 = .ok (.bipush 61, 2) := by decide +kernel
theorem d_M_printed_78 : decode b_M_printed 78 = .ok (.goto 78, 3) := by decide +kernel
theorem d_M_printed_81 : decode b_M_printed 81 = .ok (.iload 4, 2) := by decide +kernel
theorem d_M_printed_83 : decode b_M_printed 83 = .ok (.bipush 32, 2) := by decide +kernel
theorem d_M_printed_85 : decode b_M_printed 85 = .ok (.if_icmp .ge 8, 3) := by decide +kernel
theorem d_M_printed_88 : decode b_M_printed 88 = .ok (.bipush 47, 2) := by decide +kernel
theorem d_M_printed_90 : decode b_M_printed 90 = .ok (.goto 66, 3) := by decide +kernel
theorem d_M_printed_93 : decode b_M_printed 93 = .ok (.iload 4, 2) := by decide +kernel
theorem d_M_printed_95 : decode b_M_printed 95 = .ok (.bipush 64, 2) := by decide +kernel
theorem d_M_printed_97 : decode b_M_printed 97 = .ok (.if_icmp .ge 8, 3) := by decide +kernel
theorem d_M_printed_100 : decode b_M_printed 100 = .ok (.bipush 33, 2) := by decide +kernel
theorem d_M_printed_102 : decode b_M_printed 102 = .ok (.goto 54, 3) := by decide +kernel
theorem d_M_printed_105 : decode b_M_printed 105 = .ok (.iload 4, 2) := by decide +kernel
theorem d_M_printed_107 : decode b_M_printed 107 = .ok (.sipush 240, 3) := by decide +kernel
theorem d_M_printed_110 : decode b_M_printed 110 = .ok (.if_icmp .ge 17, 3) := by decide +kernel
theorem d_M_printed_113 : decode b_M_printed 113 = .ok (.bipush 97, 2) := by decide +kernel
theorem d_M_printed_115 : decode b_M_printed 115 = .ok (.iload 4, 2) := by decide +kernel
theorem d_M_printed_117 : decode b_M_printed 117 = .ok (.bipush 64, 2) := by decide +kernel
theorem d_M_printed_119 : decode b_M_printed 119 = .ok (.isub, 1) := by decide +kernel
theorem d_M_printed_120 : decode b_M_printed 120 = .ok (.bipush 16, 2) := by decide +kernel
theorem d_M_printed_122 : decode b_M_printed 122 = .ok (.idiv, 1) := by decide +kernel
theorem d_M_printed_123 : decode b_M_printed 123 = .ok (.iadd, 1) := by decide +kernel
theorem d_M_printed_124 : decode b_M_printed 124 = .ok (.goto 32, 3) := by decide +kernel
theorem d_M_printed_127 : decode b_M_printed 127 = .ok (.iload 4, 2) := by decide +kernel
theorem d_M_printed_129 : decode b_M_printed 129 = .ok (.sipush 256, 3) := by decide +kernel
theorem d_M_printed_132 : decode b_M_printed 132 = .ok (.if_icmp .ge 15, 3) := by decide +kernel
theorem d_M_printed_135 : decode b_M_printed 135 = .ok (.bipush 48, 2) := by decide +kernel
theorem d_M_printed_137 : decode b_M_printed 137 = .ok (.iload 4, 2) := by decide +kernel
theorem d_M_printed_139 : decode b_M_printed 139 = .ok (.iadd, 1) := by decide +kernel
theorem d_M_printed_140 : decode b_M_printed 140 = .ok (.sipush 240, 3) := by decide +kernel
theorem d_M_printed_143 : decode b_M_printed 143 = .ok (.isub, 1) := by decide +kernel
theorem d_M_printed_144 : decode b_M_printed 144 = .ok (.goto 12, 3) := by decide +kernel
theorem d_M_printed_147 : decode b_M_printed 147 = .ok (.bipush 122, 2) := by decide +kernel
theorem d_M_printed_149 : decode b_M_printed 149 = .ok (.iload 4, 2) := by decide +kernel
theorem d_M_printed_151 : decode b_M_printed 151 = .ok (.sipush 256, 3) := by decide +kernel
theorem d_M_printed_154 : decode b_M_printed 154 = .ok (.isub, 1) := by decide +kernel
theorem d_M_printed_155 : decode b_M_printed 155 = .ok (.isub, 1) := by decide +kernel
theorem d_M_printed_156 : decode b_M_printed 156 = .ok (.istore 5, 2) := by decide +kernel
theorem d_M_printed_158 : decode b_M_printed 158 = .ok (.aload_n 0, 1) := by decide +kernel
theorem d_M_printed_159 : decode b_M_printed 159 = .ok (.iload 5, 2) := by decide +kernel
theorem d_M_printed_161 : decode b_M_printed 161 = .ok (.invokevirtual 165, 3) := by decide +kernel
theorem d_M_printed_164 : decode b_M_printed 164 = .ok (.iload 4, 2) := by decide +kernel
theorem d_M_printed_166 : decode b_M_printed 166 = .ok (.bipush 16, 2) := by decide +kernel
theorem d_M_printed_168 : decode b_M_printed 168 = .ok (.if_icmp .lt 23, 3) := by decide +kernel
theorem d_M_printed_171 : decode b_M_printed 171 = .ok (.iload 4, 2) := by decide +kernel
theorem d_M_printed_173 : decode b_M_printed 173 = .ok (.sipush 240, 3) := by decide +kernel
theorem d_M_printed_176 : decode b_M_printed 176 = .ok (.if_icmp .ge 15, 3) := by decide +kernel
theorem d_M_printed_179 : decode b_M_printed 179 = .ok (.aload_n 0, 1) := by decide +kernel
theorem d_M_printed_180 : decode b_M_printed 180 = .ok (.bipush 65, 2) := by decide +kernel
theorem d_M_printed_182 : decode b_M_printed 182 = .ok (.iload 4, 2) := by decide +kernel
theorem d_M_printed_184 : decode b_M_printed 184 = .ok (.bipush 15, 2) := by decide +kernel
theorem d_M_printed_186 : decode b_M_printed 186 = .ok (.iand, 1) := by decide +kernel
theorem d_M_printed_187 : decode b_M_printed 187 = .ok (.iadd, 1) := by decide +kernel
theorem d_M_printed_188 : decode b_M_printed 188 = .ok (.invokevirtual 165, 3) := by decide +kernel
theorem d_M_printed_191 : decode b_M_printed 191 = .ok (.iinc 3 1, 3) := by decide +kernel
theorem d_M_printed_194 : decode b_M_printed 194 = .ok (.goto (-169), 3) := by decide +kernel
theorem d_M_printed_197 : decode b_M_printed 197 = .ok (.iload_n 2, 1) := by decide +kernel
theorem d_M_printed_198 : decode b_M_printed 198 = .ok (.iconst (-1), 1) := by decide +kernel
theorem d_M_printed_199 : decode b_M_printed 199 = .ok (.if_icmp .ne 10, 3) := by decide +kernel
theorem d_M_printed_202 : decode b_M_printed 202 = .ok (.aload_n 0, 1) := by decide +kernel
theorem d_M_printed_203 : decode b_M_printed 203 = .ok (.getfield 162, 3) := by decide +kernel
theorem d_M_printed_206 : decode b_M_printed 206 = .ok (.goto 21, 3) := by decide +kernel
theorem d_M_printed_209 : decode b_M_printed 209 = .ok (.iload_n 2, 1) := by decide +kernel
theorem d_M_printed_210 : decode b_M_printed 210 = .ok (.aload_n 0, 1) := by decide +kernel
theorem d_M_printed_211 : decode b_M_printed 211 = .ok (.getfield 162, 3) := by decide +kernel
theorem d_M_printed_214 : decode b_M_printed 214 = .ok (.if_icmp .ge 12, 3) := by decide +kernel
theorem d_M_printed_217 : decode b_M_printed 217 = .ok (.aload_n 0, 1) := by decide +kernel
theorem d_M_printed_218 : decode b_M_printed 218 = .ok (.getfield 48, 3) := by decide +kernel
theorem d_M_printed_221 : decode b_M_printed 221 = .ok (.iload_n 2, 1) := by decide +kernel
theorem d_M_printed_222 : decode b_M_printed 222 = .ok (.iaload, 1) := by decide +kernel
theorem d_M_printed_223 : decode b_M_printed 223 = .ok (.goto 4, 3) := by decide +kernel
theorem d_M_printed_226 : decode b_M_printed 226 = .ok (.iconst (-1), 1) := by decide +kernel
theorem d_M_printed_227 : decode b_M_printed 227 = .ok (.ireturn, 1) := by decide +kernel
theorem d_M_conclusion_0 : decode b_M_conclusion 0 = .ok (.aload_n 0, 1) := by decide +kernel
theorem d_M_conclusion_1 : decode b_M_conclusion 1 = .ok (.iload_n 1, 1) := by decide +kernel
theorem d_M_conclusion_2 : decode b_M_conclusion 2 = .ok (.invokevirtual 128, 3) := by decide +kernel
theorem d_M_conclusion_5 : decode b_M_conclusion 5 = .ok (.ifCond .eq 12, 3) := by decide +kernel
theorem d_M_conclusion_8 : decode b_M_conclusion 8 = .ok (.aload_n 0, 1) := by decide +kernel
theorem d_M_conclusion_9 : decode b_M_conclusion 9 = .ok (.getfield 39, 3) := by decide +kernel
theorem d_M_conclusion_12 : decode b_M_conclusion 12 = .ok (.iload_n 1, 1) := by decide +kernel
theorem d_M_conclusion_13 : decode b_M_conclusion 13 = .ok (.iaload, 1) := by decide +kernel
theorem d_M_conclusion_14 : decode b_M_conclusion 14 = .ok (.goto 4, 3) := by decide +kernel
theorem d_M_conclusion_17 : decode b_M_conclusion 17 = .ok (.iconst (-1), 1) := by decide +kernel
theorem d_M_conclusion_18 : decode b_M_conclusion 18 = .ok (.ireturn, 1) := by decide +kernel
theorem d_M_hypotheses_0 : decode b_M_hypotheses 0 = .ok (.aload_n 0, 1) := by decide +kernel
theorem d_M_hypotheses_1 : decode b_M_hypotheses 1 = .ok (.iload_n 1, 1) := by decide +kernel
theorem d_M_hypotheses_2 : decode b_M_hypotheses 2 = .ok (.invokevirtual 128, 3) := by decide +kernel
theorem d_M_hypotheses_5 : decode b_M_hypotheses 5 = .ok (.ifCond .eq 12, 3) := by decide +kernel
theorem d_M_hypotheses_8 : decode b_M_hypotheses 8 = .ok (.aload_n 0, 1) := by decide +kernel
theorem d_M_hypotheses_9 : decode b_M_hypotheses 9 = .ok (.getfield 35, 3) := by decide +kernel
theorem d_M_hypotheses_12 : decode b_M_hypotheses 12 = .ok (.iload_n 1, 1) := by decide +kernel
theorem d_M_hypotheses_13 : decode b_M_hypotheses 13 = .ok (.laload, 1) := by decide +kernel
theorem d_M_hypotheses_14 : decode b_M_hypotheses 14 = .ok (.goto 6, 3) := by decide +kernel
theorem d_M_hypotheses_17 : decode b_M_hypotheses 17 = .ok (.ldc2_w 131, 3) := by decide +kernel
theorem d_M_hypotheses_20 : decode b_M_hypotheses 20 = .ok (.lreturn, 1) := by decide +kernel
theorem d_M_axioms_0 : decode b_M_axioms 0 = .ok (.aload_n 0, 1) := by decide +kernel
theorem d_M_axioms_1 : decode b_M_axioms 1 = .ok (.iload_n 1, 1) := by decide +kernel
theorem d_M_axioms_2 : decode b_M_axioms 2 = .ok (.invokevirtual 128, 3) := by decide +kernel
theorem d_M_axioms_5 : decode b_M_axioms 5 = .ok (.ifCond .eq 12, 3) := by decide +kernel
theorem d_M_axioms_8 : decode b_M_axioms 8 = .ok (.aload_n 0, 1) := by decide +kernel
theorem d_M_axioms_9 : decode b_M_axioms 9 = .ok (.getfield 42, 3) := by decide +kernel
theorem d_M_axioms_12 : decode b_M_axioms 12 = .ok (.iload_n 1, 1) := by decide +kernel
theorem d_M_axioms_13 : decode b_M_axioms 13 = .ok (.laload, 1) := by decide +kernel
theorem d_M_axioms_14 : decode b_M_axioms 14 = .ok (.goto 6, 3) := by decide +kernel
theorem d_M_axioms_17 : decode b_M_axioms 17 = .ok (.ldc2_w 131, 3) := by decide +kernel
theorem d_M_axioms_20 : decode b_M_axioms 20 = .ok (.lreturn, 1) := by decide +kernel
theorem d_M_steps_0 : decode b_M_steps 0 = .ok (.aload_n 0, 1) := by decide +kernel
theorem d_M_steps_1 : decode b_M_steps 1 = .ok (.iload_n 1, 1) := by decide +kernel
theorem d_M_steps_2 : decode b_M_steps 2 = .ok (.invokevirtual 128, 3) := by decide +kernel
theorem d_M_steps_5 : decode b_M_steps 5 = .ok (.ifCond .eq 12, 3) := by decide +kernel
theorem d_M_steps_8 : decode b_M_steps 8 = .ok (.aload_n 0, 1) := by decide +kernel
theorem d_M_steps_9 : decode b_M_steps 9 = .ok (.getfield 45, 3) := by decide +kernel
theorem d_M_steps_12 : decode b_M_steps 12 = .ok (.iload_n 1, 1) := by decide +kernel
theorem d_M_steps_13 : decode b_M_steps 13 = .ok (.iaload, 1) := by decide +kernel
theorem d_M_steps_14 : decode b_M_steps 14 = .ok (.goto 4, 3) := by decide +kernel
theorem d_M_steps_17 : decode b_M_steps 17 = .ok (.iconst (-1), 1) := by decide +kernel
theorem d_M_steps_18 : decode b_M_steps 18 = .ok (.ireturn, 1) := by decide +kernel
end
section
theorem d_L_law_0 : decode code 0 = .ok (.new 7, 3) := by decide +kernel
theorem d_L_law_3 : decode code 3 = .ok (.dup, 1) := by decide +kernel
theorem d_L_law_4 : decode code 4 = .ok (.invokespecial 9, 3) := by decide +kernel
theorem d_L_law_7 : decode code 7 = .ok (.astore_n 1, 1) := by decide +kernel
theorem d_L_law_8 : decode code 8 = .ok (.new 10, 3) := by decide +kernel
theorem d_L_law_11 : decode code 11 = .ok (.dup, 1) := by decide +kernel
theorem d_L_law_12 : decode code 12 = .ok (.invokespecial 12, 3) := by decide +kernel
theorem d_L_law_15 : decode code 15 = .ok (.astore_n 2, 1) := by decide +kernel
theorem d_L_law_16 : decode code 16 = .ok (.iconst 0, 1) := by decide +kernel
theorem d_L_law_17 : decode code 17 = .ok (.istore_n 3, 1) := by decide +kernel
theorem d_L_law_18 : decode code 18 = .ok (.iload_n 3, 1) := by decide +kernel
theorem d_L_law_19 : decode code 19 = .ok (.aload_n 0, 1) := by decide +kernel
theorem d_L_law_20 : decode code 20 = .ok (.arraylength, 1) := by decide +kernel
theorem d_L_law_21 : decode code 21 = .ok (.iconst 4, 1) := by decide +kernel
theorem d_L_law_22 : decode code 22 = .ok (.isub, 1) := by decide +kernel
theorem d_L_law_23 : decode code 23 = .ok (.if_icmp .gt 624, 3) := by decide +kernel
theorem d_L_law_26 : decode code 26 = .ok (.aload_n 0, 1) := by decide +kernel
theorem d_L_law_27 : decode code 27 = .ok (.iload_n 3, 1) := by decide +kernel
theorem d_L_law_28 : decode code 28 = .ok (.iaload, 1) := by decide +kernel
theorem d_L_law_29 : decode code 29 = .ok (.bipush 31, 2) := by decide +kernel
theorem d_L_law_31 : decode code 31 = .ok (.iand, 1) := by decide +kernel
theorem d_L_law_32 : decode code 32 = .ok (.tableswitch 609 0 16 #[84, 117, 150, 183, 216, 275, 334, 377, 390, 403, 426, 449, 482, 515, 538, 562, 586], 84) := by decide +kernel
theorem d_L_law_116 : decode code 116 = .ok (.aload_n 1, 1) := by decide +kernel
theorem d_L_law_117 : decode code 117 = .ok (.aload_n 0, 1) := by decide +kernel
theorem d_L_law_118 : decode code 118 = .ok (.iload_n 3, 1) := by decide +kernel
theorem d_L_law_119 : decode code 119 = .ok (.iconst 1, 1) := by decide +kernel
theorem d_L_law_120 : decode code 120 = .ok (.iadd, 1) := by decide +kernel
theorem d_L_law_121 : decode code 121 = .ok (.iaload, 1) := by decide +kernel
theorem d_L_law_122 : decode code 122 = .ok (.aload_n 0, 1) := by decide +kernel
theorem d_L_law_123 : decode code 123 = .ok (.iload_n 3, 1) := by decide +kernel
theorem d_L_law_124 : decode code 124 = .ok (.iconst 2, 1) := by decide +kernel
theorem d_L_law_125 : decode code 125 = .ok (.iadd, 1) := by decide +kernel
theorem d_L_law_126 : decode code 126 = .ok (.iaload, 1) := by decide +kernel
theorem d_L_law_127 : decode code 127 = .ok (.invokevirtual 13, 3) := by decide +kernel
theorem d_L_law_130 : decode code 130 = .ok (.aload_n 2, 1) := by decide +kernel
theorem d_L_law_131 : decode code 131 = .ok (.aload_n 0, 1) := by decide +kernel
theorem d_L_law_132 : decode code 132 = .ok (.iload_n 3, 1) := by decide +kernel
theorem d_L_law_133 : decode code 133 = .ok (.iconst 1, 1) := by decide +kernel
theorem d_L_law_134 : decode code 134 = .ok (.iadd, 1) := by decide +kernel
theorem d_L_law_135 : decode code 135 = .ok (.iaload, 1) := by decide +kernel
theorem d_L_law_136 : decode code 136 = .ok (.aload_n 0, 1) := by decide +kernel
theorem d_L_law_137 : decode code 137 = .ok (.iload_n 3, 1) := by decide +kernel
theorem d_L_law_138 : decode code 138 = .ok (.iconst 2, 1) := by decide +kernel
theorem d_L_law_139 : decode code 139 = .ok (.iadd, 1) := by decide +kernel
theorem d_L_law_140 : decode code 140 = .ok (.iaload, 1) := by decide +kernel
theorem d_L_law_141 : decode code 141 = .ok (.invokevirtual 17, 3) := by decide +kernel
theorem d_L_law_144 : decode code 144 = .ok (.if_icmp .eq 497, 3) := by decide +kernel
theorem d_L_law_147 : decode code 147 = .ok (.iconst 0, 1) := by decide +kernel
theorem d_L_law_148 : decode code 148 = .ok (.ireturn, 1) := by decide +kernel
theorem d_L_law_149 : decode code 149 = .ok (.aload_n 1, 1) := by decide +kernel
theorem d_L_law_150 : decode code 150 = .ok (.aload_n 0, 1) := by decide +kernel
theorem d_L_law_151 : decode code 151 = .ok (.iload_n 3, 1) := by decide +kernel
theorem d_L_law_152 : decode code 152 = .ok (.iconst 1, 1) := by decide +kernel
theorem d_L_law_153 : decode code 153 = .ok (.iadd, 1) := by decide +kernel
theorem d_L_law_154 : decode code 154 = .ok (.iaload, 1) := by decide +kernel
theorem d_L_law_155 : decode code 155 = .ok (.aload_n 0, 1) := by decide +kernel
theorem d_L_law_156 : decode code 156 = .ok (.iload_n 3, 1) := by decide +kernel
theorem d_L_law_157 : decode code 157 = .ok (.iconst 2, 1) := by decide +kernel
theorem d_L_law_158 : decode code 158 = .ok (.iadd, 1) := by decide +kernel
theorem d_L_law_159 : decode code 159 = .ok (.iaload, 1) := by decide +kernel
theorem d_L_law_160 : decode code 160 = .ok (.invokevirtual 18, 3) := by decide +kernel
theorem d_L_law_163 : decode code 163 = .ok (.aload_n 2, 1) := by decide +kernel
theorem d_L_law_164 : decode code 164 = .ok (.aload_n 0, 1) := by decide +kernel
theorem d_L_law_165 : decode code 165 = .ok (.iload_n 3, 1) := by decide +kernel
theorem d_L_law_166 : decode code 166 = .ok (.iconst 1, 1) := by decide +kernel
theorem d_L_law_167 : decode code 167 = .ok (.iadd, 1) := by decide +kernel
theorem d_L_law_168 : decode code 168 = .ok (.iaload, 1) := by decide +kernel
theorem d_L_law_169 : decode code 169 = .ok (.aload_n 0, 1) := by decide +kernel
theorem d_L_law_170 : decode code 170 = .ok (.iload_n 3, 1) := by decide +kernel
theorem d_L_law_171 : decode code 171 = .ok (.iconst 2, 1) := by decide +kernel
theorem d_L_law_172 : decode code 172 = .ok (.iadd, 1) := by decide +kernel
theorem d_L_law_173 : decode code 173 = .ok (.iaload, 1) := by decide +kernel
theorem d_L_law_174 : decode code 174 = .ok (.invokevirtual 21, 3) := by decide +kernel
theorem d_L_law_177 : decode code 177 = .ok (.if_icmp .eq 464, 3) := by decide +kernel
theorem d_L_law_180 : decode code 180 = .ok (.iconst 0, 1) := by decide +kernel
theorem d_L_law_181 : decode code 181 = .ok (.ireturn, 1) := by decide +kernel
theorem d_L_law_182 : decode code 182 = .ok (.aload_n 1, 1) := by decide +kernel
theorem d_L_law_183 : decode code 183 = .ok (.aload_n 0, 1) := by decide +kernel
theorem d_L_law_184 : decode code 184 = .ok (.iload_n 3, 1) := by decide +kernel
theorem d_L_law_185 : decode code 185 = .ok (.iconst 1, 1) := by decide +kernel
theorem d_L_law_186 : decode code 186 = .ok (.iadd, 1) := by decide +kernel
theorem d_L_law_187 : decode code 187 = .ok (.iaload, 1) := by decide +kernel
theorem d_L_law_188 : decode code 188 = .ok (.aload_n 0, 1) := by decide +kernel
theorem d_L_law_189 : decode code 189 = .ok (.iload_n 3, 1) := by decide +kernel
theorem d_L_law_190 : decode code 190 = .ok (.iconst 2, 1) := by decide +kernel
theorem d_L_law_191 : decode code 191 = .ok (.iadd, 1) := by decide +kernel
theorem d_L_law_192 : decode code 192 = .ok (.iaload, 1) := by decide +kernel
theorem d_L_law_193 : decode code 193 = .ok (.invokevirtual 22, 3) := by decide +kernel
theorem d_L_law_196 : decode code 196 = .ok (.aload_n 2, 1) := by decide +kernel
theorem d_L_law_197 : decode code 197 = .ok (.aload_n 0, 1) := by decide +kernel
theorem d_L_law_198 : decode code 198 = .ok (.iload_n 3, 1) := by decide +kernel
theorem d_L_law_199 : decode code 199 = .ok (.iconst 1, 1) := by decide +kernel
theorem d_L_law_200 : decode code 200 = .ok (.iadd, 1) := by decide +kernel
theorem d_L_law_201 : decode code 201 = .ok (.iaload, 1) := by decide +kernel
theorem d_L_law_202 : decode code 202 = .ok (.aload_n 0, 1) := by decide +kernel
theorem d_L_law_203 : decode code 203 = .ok (.iload_n 3, 1) := by decide +kernel
theorem d_L_law_204 : decode code 204 = .ok (.iconst 2, 1) := by decide +kernel
theorem d_L_law_205 : decode code 205 = .ok (.iadd, 1) := by decide +kernel
theorem d_L_law_206 : decode code 206 = .ok (.iaload, 1) := by decide +kernel
theorem d_L_law_207 : decode code 207 = .ok (.invokevirtual 25, 3) := by decide +kernel
theorem d_L_law_210 : decode code 210 = .ok (.if_icmp .eq 431, 3) := by decide +kernel
theorem d_L_law_213 : decode code 213 = .ok (.iconst 0, 1) := by decide +kernel
theorem d_L_law_214 : decode code 214 = .ok (.ireturn, 1) := by decide +kernel
theorem d_L_law_215 : decode code 215 = .ok (.aload_n 1, 1) := by decide +kernel
theorem d_L_law_216 : decode code 216 = .ok (.aload_n 0, 1) := by decide +kernel
theorem d_L_law_217 : decode code 217 = .ok (.iload_n 3, 1) := by decide +kernel
theorem d_L_law_218 : decode code 218 = .ok (.iconst 1, 1) := by decide +kernel
theorem d_L_law_219 : decode code 219 = .ok (.iadd, 1) := by decide +kernel
theorem d_L_law_220 : decode code 220 = .ok (.iaload, 1) := by decide +kernel
theorem d_L_law_221 : decode code 221 = .ok (.aload_n 0, 1) := by decide +kernel
theorem d_L_law_222 : decode code 222 = .ok (.iload_n 3, 1) := by decide +kernel
theorem d_L_law_223 : decode code 223 = .ok (.iconst 2, 1) := by decide +kernel
theorem d_L_law_224 : decode code 224 = .ok (.iadd, 1) := by decide +kernel
theorem d_L_law_225 : decode code 225 = .ok (.iaload, 1) := by decide +kernel
theorem d_L_law_226 : decode code 226 = .ok (.invokevirtual 26, 3) := by decide +kernel
theorem d_L_law_229 : decode code 229 = .ok (.aload_n 2, 1) := by decide +kernel
theorem d_L_law_230 : decode code 230 = .ok (.aload_n 0, 1) := by decide +kernel
theorem d_L_law_231 : decode code 231 = .ok (.iload_n 3, 1) := by decide +kernel
theorem d_L_law_232 : decode code 232 = .ok (.iconst 1, 1) := by decide +kernel
theorem d_L_law_233 : decode code 233 = .ok (.iadd, 1) := by decide +kernel
theorem d_L_law_234 : decode code 234 = .ok (.iaload, 1) := by decide +kernel
theorem d_L_law_235 : decode code 235 = .ok (.aload_n 0, 1) := by decide +kernel
theorem d_L_law_236 : decode code 236 = .ok (.iload_n 3, 1) := by decide +kernel
theorem d_L_law_237 : decode code 237 = .ok (.iconst 2, 1) := by decide +kernel
theorem d_L_law_238 : decode code 238 = .ok (.iadd, 1) := by decide +kernel
theorem d_L_law_239 : decode code 239 = .ok (.iaload, 1) := by decide +kernel
theorem d_L_law_240 : decode code 240 = .ok (.invokevirtual 29, 3) := by decide +kernel
theorem d_L_law_243 : decode code 243 = .ok (.if_icmp .eq 398, 3) := by decide +kernel
theorem d_L_law_246 : decode code 246 = .ok (.iconst 0, 1) := by decide +kernel
theorem d_L_law_247 : decode code 247 = .ok (.ireturn, 1) := by decide +kernel
theorem d_L_law_248 : decode code 248 = .ok (.aload_n 1, 1) := by decide +kernel
theorem d_L_law_249 : decode code 249 = .ok (.aload_n 0, 1) := by decide +kernel
theorem d_L_law_250 : decode code 250 = .ok (.iload_n 3, 1) := by decide +kernel
theorem d_L_law_251 : decode code 251 = .ok (.iconst 1, 1) := by decide +kernel
theorem d_L_law_252 : decode code 252 = .ok (.iadd, 1) := by decide +kernel
theorem d_L_law_253 : decode code 253 = .ok (.iaload, 1) := by decide +kernel
theorem d_L_law_254 : decode code 254 = .ok (.ifCond .eq 7, 3) := by decide +kernel
theorem d_L_law_257 : decode code 257 = .ok (.iconst 1, 1) := by decide +kernel
theorem d_L_law_258 : decode code 258 = .ok (.goto 4, 3) := by decide +kernel
theorem d_L_law_261 : decode code 261 = .ok (.iconst 0, 1) := by decide +kernel
theorem d_L_law_262 : decode code 262 = .ok (.aload_n 0, 1) := by decide +kernel
theorem d_L_law_263 : decode code 263 = .ok (.iload_n 3, 1) := by decide +kernel
theorem d_L_law_264 : decode code 264 = .ok (.iconst 2, 1) := by decide +kernel
theorem d_L_law_265 : decode code 265 = .ok (.iadd, 1) := by decide +kernel
theorem d_L_law_266 : decode code 266 = .ok (.iaload, 1) := by decide +kernel
theorem d_L_law_267 : decode code 267 = .ok (.aload_n 0, 1) := by decide +kernel
theorem d_L_law_268 : decode code 268 = .ok (.iload_n 3, 1) := by decide +kernel
theorem d_L_law_269 : decode code 269 = .ok (.iconst 3, 1) := by decide +kernel
theorem d_L_law_270 : decode code 270 = .ok (.iadd, 1) := by decide +kernel
theorem d_L_law_271 : decode code 271 = .ok (.iaload, 1) := by decide +kernel
theorem d_L_law_272 : decode code 272 = .ok (.invokevirtual 30, 3) := by decide +kernel
theorem d_L_law_275 : decode code 275 = .ok (.aload_n 2, 1) := by decide +kernel
theorem d_L_law_276 : decode code 276 = .ok (.aload_n 0, 1) := by decide +kernel
theorem d_L_law_277 : decode code 277 = .ok (.iload_n 3, 1) := by decide +kernel
theorem d_L_law_278 : decode code 278 = .ok (.iconst 1, 1) := by decide +kernel
theorem d_L_law_279 : decode code 279 = .ok (.iadd, 1) := by decide +kernel
theorem d_L_law_280 : decode code 280 = .ok (.iaload, 1) := by decide +kernel
theorem d_L_law_281 : decode code 281 = .ok (.ifCond .eq 7, 3) := by decide +kernel
theorem d_L_law_284 : decode code 284 = .ok (.iconst 1, 1) := by decide +kernel
theorem d_L_law_285 : decode code 285 = .ok (.goto 4, 3) := by decide +kernel
theorem d_L_law_288 : decode code 288 = .ok (.iconst 0, 1) := by decide +kernel
theorem d_L_law_289 : decode code 289 = .ok (.aload_n 0, 1) := by decide +kernel
theorem d_L_law_290 : decode code 290 = .ok (.iload_n 3, 1) := by decide +kernel
theorem d_L_law_291 : decode code 291 = .ok (.iconst 2, 1) := by decide +kernel
theorem d_L_law_292 : decode code 292 = .ok (.iadd, 1) := by decide +kernel
theorem d_L_law_293 : decode code 293 = .ok (.iaload, 1) := by decide +kernel
theorem d_L_law_294 : decode code 294 = .ok (.aload_n 0, 1) := by decide +kernel
theorem d_L_law_295 : decode code 295 = .ok (.iload_n 3, 1) := by decide +kernel
theorem d_L_law_296 : decode code 296 = .ok (.iconst 3, 1) := by decide +kernel
theorem d_L_law_297 : decode code 297 = .ok (.iadd, 1) := by decide +kernel
theorem d_L_law_298 : decode code 298 = .ok (.iaload, 1) := by decide +kernel
theorem d_L_law_299 : decode code 299 = .ok (.invokevirtual 34, 3) := by decide +kernel
theorem d_L_law_302 : decode code 302 = .ok (.if_icmp .eq 339, 3) := by decide +kernel
theorem d_L_law_305 : decode code 305 = .ok (.iconst 0, 1) := by decide +kernel
theorem d_L_law_306 : decode code 306 = .ok (.ireturn, 1) := by decide +kernel
theorem d_L_law_307 : decode code 307 = .ok (.aload_n 1, 1) := by decide +kernel
theorem d_L_law_308 : decode code 308 = .ok (.aload_n 0, 1) := by decide +kernel
theorem d_L_law_309 : decode code 309 = .ok (.iload_n 3, 1) := by decide +kernel
theorem d_L_law_310 : decode code 310 = .ok (.iconst 1, 1) := by decide +kernel
theorem d_L_law_311 : decode code 311 = .ok (.iadd, 1) := by decide +kernel
theorem d_L_law_312 : decode code 312 = .ok (.iaload, 1) := by decide +kernel
theorem d_L_law_313 : decode code 313 = .ok (.ifCond .eq 7, 3) := by decide +kernel
theorem d_L_law_316 : decode code 316 = .ok (.iconst 1, 1) := by decide +kernel
theorem d_L_law_317 : decode code 317 = .ok (.goto 4, 3) := by decide +kernel
theorem d_L_law_320 : decode code 320 = .ok (.iconst 0, 1) := by decide +kernel
theorem d_L_law_321 : decode code 321 = .ok (.aload_n 0, 1) := by decide +kernel
theorem d_L_law_322 : decode code 322 = .ok (.iload_n 3, 1) := by decide +kernel
theorem d_L_law_323 : decode code 323 = .ok (.iconst 2, 1) := by decide +kernel
theorem d_L_law_324 : decode code 324 = .ok (.iadd, 1) := by decide +kernel
theorem d_L_law_325 : decode code 325 = .ok (.iaload, 1) := by decide +kernel
theorem d_L_law_326 : decode code 326 = .ok (.aload_n 0, 1) := by decide +kernel
theorem d_L_law_327 : decode code 327 = .ok (.iload_n 3, 1) := by decide +kernel
theorem d_L_law_328 : decode code 328 = .ok (.iconst 3, 1) := by decide +kernel
theorem d_L_law_329 : decode code 329 = .ok (.iadd, 1) := by decide +kernel
theorem d_L_law_330 : decode code 330 = .ok (.iaload, 1) := by decide +kernel
theorem d_L_law_331 : decode code 331 = .ok (.invokevirtual 35, 3) := by decide +kernel
theorem d_L_law_334 : decode code 334 = .ok (.aload_n 2, 1) := by decide +kernel
theorem d_L_law_335 : decode code 335 = .ok (.aload_n 0, 1) := by decide +kernel
theorem d_L_law_336 : decode code 336 = .ok (.iload_n 3, 1) := by decide +kernel
theorem d_L_law_337 : decode code 337 = .ok (.iconst 1, 1) := by decide +kernel
theorem d_L_law_338 : decode code 338 = .ok (.iadd, 1) := by decide +kernel
theorem d_L_law_339 : decode code 339 = .ok (.iaload, 1) := by decide +kernel
theorem d_L_law_340 : decode code 340 = .ok (.ifCond .eq 7, 3) := by decide +kernel
theorem d_L_law_343 : decode code 343 = .ok (.iconst 1, 1) := by decide +kernel
theorem d_L_law_344 : decode code 344 = .ok (.goto 4, 3) := by decide +kernel
theorem d_L_law_347 : decode code 347 = .ok (.iconst 0, 1) := by decide +kernel
theorem d_L_law_348 : decode code 348 = .ok (.aload_n 0, 1) := by decide +kernel
theorem d_L_law_349 : decode code 349 = .ok (.iload_n 3, 1) := by decide +kernel
theorem d_L_law_350 : decode code 350 = .ok (.iconst 2, 1) := by decide +kernel
theorem d_L_law_351 : decode code 351 = .ok (.iadd, 1) := by decide +kernel
theorem d_L_law_352 : decode code 352 = .ok (.iaload, 1) := by decide +kernel
theorem d_L_law_353 : decode code 353 = .ok (.aload_n 0, 1) := by decide +kernel
theorem d_L_law_354 : decode code 354 = .ok (.iload_n 3, 1) := by decide +kernel
theorem d_L_law_355 : decode code 355 = .ok (.iconst 3, 1) := by decide +kernel
theorem d_L_law_356 : decode code 356 = .ok (.iadd, 1) := by decide +kernel
theorem d_L_law_357 : decode code 357 = .ok (.iaload, 1) := by decide +kernel
theorem d_L_law_358 : decode code 358 = .ok (.invokevirtual 38, 3) := by decide +kernel
theorem d_L_law_361 : decode code 361 = .ok (.if_icmp .eq 280, 3) := by decide +kernel
theorem d_L_law_364 : decode code 364 = .ok (.iconst 0, 1) := by decide +kernel
theorem d_L_law_365 : decode code 365 = .ok (.ireturn, 1) := by decide +kernel
theorem d_L_law_366 : decode code 366 = .ok (.aload_n 1, 1) := by decide +kernel
theorem d_L_law_367 : decode code 367 = .ok (.aload_n 0, 1) := by decide +kernel
theorem d_L_law_368 : decode code 368 = .ok (.iload_n 3, 1) := by decide +kernel
theorem d_L_law_369 : decode code 369 = .ok (.iconst 1, 1) := by decide +kernel
theorem d_L_law_370 : decode code 370 = .ok (.iadd, 1) := by decide +kernel
theorem d_L_law_371 : decode code 371 = .ok (.iaload, 1) := by decide +kernel
theorem d_L_law_372 : decode code 372 = .ok (.aload_n 0, 1) := by decide +kernel
theorem d_L_law_373 : decode code 373 = .ok (.iload_n 3, 1) := by decide +kernel
theorem d_L_law_374 : decode code 374 = .ok (.iconst 2, 1) := by decide +kernel
theorem d_L_law_375 : decode code 375 = .ok (.iadd, 1) := by decide +kernel
theorem d_L_law_376 : decode code 376 = .ok (.iaload, 1) := by decide +kernel
theorem d_L_law_377 : decode code 377 = .ok (.aload_n 0, 1) := by decide +kernel
theorem d_L_law_378 : decode code 378 = .ok (.iload_n 3, 1) := by decide +kernel
theorem d_L_law_379 : decode code 379 = .ok (.iconst 3, 1) := by decide +kernel
theorem d_L_law_380 : decode code 380 = .ok (.iadd, 1) := by decide +kernel
theorem d_L_law_381 : decode code 381 = .ok (.iaload, 1) := by decide +kernel
theorem d_L_law_382 : decode code 382 = .ok (.invokevirtual 39, 3) := by decide +kernel
theorem d_L_law_385 : decode code 385 = .ok (.aload_n 2, 1) := by decide +kernel
theorem d_L_law_386 : decode code 386 = .ok (.aload_n 0, 1) := by decide +kernel
theorem d_L_law_387 : decode code 387 = .ok (.iload_n 3, 1) := by decide +kernel
theorem d_L_law_388 : decode code 388 = .ok (.iconst 1, 1) := by decide +kernel
theorem d_L_law_389 : decode code 389 = .ok (.iadd, 1) := by decide +kernel
theorem d_L_law_390 : decode code 390 = .ok (.iaload, 1) := by decide +kernel
theorem d_L_law_391 : decode code 391 = .ok (.aload_n 0, 1) := by decide +kernel
theorem d_L_law_392 : decode code 392 = .ok (.iload_n 3, 1) := by decide +kernel
theorem d_L_law_393 : decode code 393 = .ok (.iconst 2, 1) := by decide +kernel
theorem d_L_law_394 : decode code 394 = .ok (.iadd, 1) := by decide +kernel
theorem d_L_law_395 : decode code 395 = .ok (.iaload, 1) := by decide +kernel
theorem d_L_law_396 : decode code 396 = .ok (.aload_n 0, 1) := by decide +kernel
theorem d_L_law_397 : decode code 397 = .ok (.iload_n 3, 1) := by decide +kernel
theorem d_L_law_398 : decode code 398 = .ok (.iconst 3, 1) := by decide +kernel
theorem d_L_law_399 : decode code 399 = .ok (.iadd, 1) := by decide +kernel
theorem d_L_law_400 : decode code 400 = .ok (.iaload, 1) := by decide +kernel
theorem d_L_law_401 : decode code 401 = .ok (.invokevirtual 43, 3) := by decide +kernel
theorem d_L_law_404 : decode code 404 = .ok (.if_icmp .eq 237, 3) := by decide +kernel
theorem d_L_law_407 : decode code 407 = .ok (.iconst 0, 1) := by decide +kernel
theorem d_L_law_408 : decode code 408 = .ok (.ireturn, 1) := by decide +kernel
theorem d_L_law_409 : decode code 409 = .ok (.aload_n 1, 1) := by decide +kernel
theorem d_L_law_410 : decode code 410 = .ok (.invokevirtual 44, 3) := by decide +kernel
theorem d_L_law_413 : decode code 413 = .ok (.aload_n 2, 1) := by decide +kernel
theorem d_L_law_414 : decode code 414 = .ok (.invokevirtual 48, 3) := by decide +kernel
theorem d_L_law_417 : decode code 417 = .ok (.if_icmp .eq 224, 3) := by decide +kernel
theorem d_L_law_420 : decode code 420 = .ok (.iconst 0, 1) := by decide +kernel
theorem d_L_law_421 : decode code 421 = .ok (.ireturn, 1) := by decide +kernel
theorem d_L_law_422 : decode code 422 = .ok (.aload_n 1, 1) := by decide +kernel
theorem d_L_law_423 : decode code 423 = .ok (.invokevirtual 49, 3) := by decide +kernel
theorem d_L_law_426 : decode code 426 = .ok (.aload_n 2, 1) := by decide +kernel
theorem d_L_law_427 : decode code 427 = .ok (.invokevirtual 52, 3) := by decide +kernel
theorem d_L_law_430 : decode code 430 = .ok (.if_icmp .eq 211, 3) := by decide +kernel
theorem d_L_law_433 : decode code 433 = .ok (.iconst 0, 1) := by decide +kernel
theorem d_L_law_434 : decode code 434 = .ok (.ireturn, 1) := by decide +kernel
theorem d_L_law_435 : decode code 435 = .ok (.aload_n 1, 1) := by decide +kernel
theorem d_L_law_436 : decode code 436 = .ok (.aload_n 0, 1) := by decide +kernel
theorem d_L_law_437 : decode code 437 = .ok (.iload_n 3, 1) := by decide +kernel
theorem d_L_law_438 : decode code 438 = .ok (.iconst 1, 1) := by decide +kernel
theorem d_L_law_439 : decode code 439 = .ok (.iadd, 1) := by decide +kernel
theorem d_L_law_440 : decode code 440 = .ok (.iaload, 1) := by decide +kernel
theorem d_L_law_441 : decode code 441 = .ok (.invokevirtual 53, 3) := by decide +kernel
theorem d_L_law_444 : decode code 444 = .ok (.aload_n 2, 1) := by decide +kernel
theorem d_L_law_445 : decode code 445 = .ok (.aload_n 0, 1) := by decide +kernel
theorem d_L_law_446 : decode code 446 = .ok (.iload_n 3, 1) := by decide +kernel
theorem d_L_law_447 : decode code 447 = .ok (.iconst 1, 1) := by decide +kernel
theorem d_L_law_448 : decode code 448 = .ok (.iadd, 1) := by decide +kernel
theorem d_L_law_449 : decode code 449 = .ok (.iaload, 1) := by decide +kernel
theorem d_L_law_450 : decode code 450 = .ok (.invokevirtual 57, 3) := by decide +kernel
theorem d_L_law_453 : decode code 453 = .ok (.if_icmp .eq 188, 3) := by decide +kernel
theorem d_L_law_456 : decode code 456 = .ok (.iconst 0, 1) := by decide +kernel
theorem d_L_law_457 : decode code 457 = .ok (.ireturn, 1) := by decide +kernel
theorem d_L_law_458 : decode code 458 = .ok (.aload_n 1, 1) := by decide +kernel
theorem d_L_law_459 : decode code 459 = .ok (.aload_n 0, 1) := by decide +kernel
theorem d_L_law_460 : decode code 460 = .ok (.iload_n 3, 1) := by decide +kernel
theorem d_L_law_461 : decode code 461 = .ok (.iconst 1, 1) := by decide +kernel
theorem d_L_law_462 : decode code 462 = .ok (.iadd, 1) := by decide +kernel
theorem d_L_law_463 : decode code 463 = .ok (.iaload, 1) := by decide +kernel
theorem d_L_law_464 : decode code 464 = .ok (.invokevirtual 58, 3) := by decide +kernel
theorem d_L_law_467 : decode code 467 = .ok (.aload_n 2, 1) := by decide +kernel
theorem d_L_law_468 : decode code 468 = .ok (.aload_n 0, 1) := by decide +kernel
theorem d_L_law_469 : decode code 469 = .ok (.iload_n 3, 1) := by decide +kernel
theorem d_L_law_470 : decode code 470 = .ok (.iconst 1, 1) := by decide +kernel
theorem d_L_law_471 : decode code 471 = .ok (.iadd, 1) := by decide +kernel
theorem d_L_law_472 : decode code 472 = .ok (.iaload, 1) := by decide +kernel
theorem d_L_law_473 : decode code 473 = .ok (.invokevirtual 61, 3) := by decide +kernel
theorem d_L_law_476 : decode code 476 = .ok (.if_icmp .eq 165, 3) := by decide +kernel
theorem d_L_law_479 : decode code 479 = .ok (.iconst 0, 1) := by decide +kernel
theorem d_L_law_480 : decode code 480 = .ok (.ireturn, 1) := by decide +kernel
theorem d_L_law_481 : decode code 481 = .ok (.aload_n 1, 1) := by decide +kernel
theorem d_L_law_482 : decode code 482 = .ok (.aload_n 0, 1) := by decide +kernel
theorem d_L_law_483 : decode code 483 = .ok (.iload_n 3, 1) := by decide +kernel
theorem d_L_law_484 : decode code 484 = .ok (.iconst 1, 1) := by decide +kernel
theorem d_L_law_485 : decode code 485 = .ok (.iadd, 1) := by decide +kernel
theorem d_L_law_486 : decode code 486 = .ok (.iaload, 1) := by decide +kernel
theorem d_L_law_487 : decode code 487 = .ok (.aload_n 0, 1) := by decide +kernel
theorem d_L_law_488 : decode code 488 = .ok (.iload_n 3, 1) := by decide +kernel
theorem d_L_law_489 : decode code 489 = .ok (.iconst 2, 1) := by decide +kernel
theorem d_L_law_490 : decode code 490 = .ok (.iadd, 1) := by decide +kernel
theorem d_L_law_491 : decode code 491 = .ok (.iaload, 1) := by decide +kernel
theorem d_L_law_492 : decode code 492 = .ok (.invokevirtual 62, 3) := by decide +kernel
theorem d_L_law_495 : decode code 495 = .ok (.aload_n 2, 1) := by decide +kernel
theorem d_L_law_496 : decode code 496 = .ok (.aload_n 0, 1) := by decide +kernel
theorem d_L_law_497 : decode code 497 = .ok (.iload_n 3, 1) := by decide +kernel
theorem d_L_law_498 : decode code 498 = .ok (.iconst 1, 1) := by decide +kernel
theorem d_L_law_499 : decode code 499 = .ok (.iadd, 1) := by decide +kernel
theorem d_L_law_500 : decode code 500 = .ok (.iaload, 1) := by decide +kernel
theorem d_L_law_501 : decode code 501 = .ok (.aload_n 0, 1) := by decide +kernel
theorem d_L_law_502 : decode code 502 = .ok (.iload_n 3, 1) := by decide +kernel
theorem d_L_law_503 : decode code 503 = .ok (.iconst 2, 1) := by decide +kernel
theorem d_L_law_504 : decode code 504 = .ok (.iadd, 1) := by decide +kernel
theorem d_L_law_505 : decode code 505 = .ok (.iaload, 1) := by decide +kernel
theorem d_L_law_506 : decode code 506 = .ok (.invokevirtual 66, 3) := by decide +kernel
theorem d_L_law_509 : decode code 509 = .ok (.if_icmp .eq 132, 3) := by decide +kernel
theorem d_L_law_512 : decode code 512 = .ok (.iconst 0, 1) := by decide +kernel
theorem d_L_law_513 : decode code 513 = .ok (.ireturn, 1) := by decide +kernel
theorem d_L_law_514 : decode code 514 = .ok (.aload_n 1, 1) := by decide +kernel
theorem d_L_law_515 : decode code 515 = .ok (.aload_n 0, 1) := by decide +kernel
theorem d_L_law_516 : decode code 516 = .ok (.iload_n 3, 1) := by decide +kernel
theorem d_L_law_517 : decode code 517 = .ok (.iconst 1, 1) := by decide +kernel
theorem d_L_law_518 : decode code 518 = .ok (.iadd, 1) := by decide +kernel
theorem d_L_law_519 : decode code 519 = .ok (.iaload, 1) := by decide +kernel
theorem d_L_law_520 : decode code 520 = .ok (.aload_n 0, 1) := by decide +kernel
theorem d_L_law_521 : decode code 521 = .ok (.iload_n 3, 1) := by decide +kernel
theorem d_L_law_522 : decode code 522 = .ok (.iconst 2, 1) := by decide +kernel
theorem d_L_law_523 : decode code 523 = .ok (.iadd, 1) := by decide +kernel
theorem d_L_law_524 : decode code 524 = .ok (.iaload, 1) := by decide +kernel
theorem d_L_law_525 : decode code 525 = .ok (.invokevirtual 67, 3) := by decide +kernel
theorem d_L_law_528 : decode code 528 = .ok (.aload_n 2, 1) := by decide +kernel
theorem d_L_law_529 : decode code 529 = .ok (.aload_n 0, 1) := by decide +kernel
theorem d_L_law_530 : decode code 530 = .ok (.iload_n 3, 1) := by decide +kernel
theorem d_L_law_531 : decode code 531 = .ok (.iconst 1, 1) := by decide +kernel
theorem d_L_law_532 : decode code 532 = .ok (.iadd, 1) := by decide +kernel
theorem d_L_law_533 : decode code 533 = .ok (.iaload, 1) := by decide +kernel
theorem d_L_law_534 : decode code 534 = .ok (.aload_n 0, 1) := by decide +kernel
theorem d_L_law_535 : decode code 535 = .ok (.iload_n 3, 1) := by decide +kernel
theorem d_L_law_536 : decode code 536 = .ok (.iconst 2, 1) := by decide +kernel
theorem d_L_law_537 : decode code 537 = .ok (.iadd, 1) := by decide +kernel
theorem d_L_law_538 : decode code 538 = .ok (.iaload, 1) := by decide +kernel
theorem d_L_law_539 : decode code 539 = .ok (.invokevirtual 70, 3) := by decide +kernel
theorem d_L_law_542 : decode code 542 = .ok (.if_icmp .eq 99, 3) := by decide +kernel
theorem d_L_law_545 : decode code 545 = .ok (.iconst 0, 1) := by decide +kernel
theorem d_L_law_546 : decode code 546 = .ok (.ireturn, 1) := by decide +kernel
theorem d_L_law_547 : decode code 547 = .ok (.aload_n 1, 1) := by decide +kernel
theorem d_L_law_548 : decode code 548 = .ok (.aload_n 0, 1) := by decide +kernel
theorem d_L_law_549 : decode code 549 = .ok (.iload_n 3, 1) := by decide +kernel
theorem d_L_law_550 : decode code 550 = .ok (.iconst 1, 1) := by decide +kernel
theorem d_L_law_551 : decode code 551 = .ok (.iadd, 1) := by decide +kernel
theorem d_L_law_552 : decode code 552 = .ok (.iaload, 1) := by decide +kernel
theorem d_L_law_553 : decode code 553 = .ok (.invokevirtual 71, 3) := by decide +kernel
theorem d_L_law_556 : decode code 556 = .ok (.aload_n 2, 1) := by decide +kernel
theorem d_L_law_557 : decode code 557 = .ok (.aload_n 0, 1) := by decide +kernel
theorem d_L_law_558 : decode code 558 = .ok (.iload_n 3, 1) := by decide +kernel
theorem d_L_law_559 : decode code 559 = .ok (.iconst 1, 1) := by decide +kernel
theorem d_L_law_560 : decode code 560 = .ok (.iadd, 1) := by decide +kernel
theorem d_L_law_561 : decode code 561 = .ok (.iaload, 1) := by decide +kernel
theorem d_L_law_562 : decode code 562 = .ok (.invokevirtual 74, 3) := by decide +kernel
theorem d_L_law_565 : decode code 565 = .ok (.if_icmp .eq 76, 3) := by decide +kernel
theorem d_L_law_568 : decode code 568 = .ok (.iconst 0, 1) := by decide +kernel
theorem d_L_law_569 : decode code 569 = .ok (.ireturn, 1) := by decide +kernel
theorem d_L_law_570 : decode code 570 = .ok (.aload_n 1, 1) := by decide +kernel
theorem d_L_law_571 : decode code 571 = .ok (.aload_n 0, 1) := by decide +kernel
theorem d_L_law_572 : decode code 572 = .ok (.iload_n 3, 1) := by decide +kernel
theorem d_L_law_573 : decode code 573 = .ok (.iconst 1, 1) := by decide +kernel
theorem d_L_law_574 : decode code 574 = .ok (.iadd, 1) := by decide +kernel
theorem d_L_law_575 : decode code 575 = .ok (.iaload, 1) := by decide +kernel
theorem d_L_law_576 : decode code 576 = .ok (.invokevirtual 75, 3) := by decide +kernel
theorem d_L_law_579 : decode code 579 = .ok (.aload_n 2, 1) := by decide +kernel
theorem d_L_law_580 : decode code 580 = .ok (.aload_n 0, 1) := by decide +kernel
theorem d_L_law_581 : decode code 581 = .ok (.iload_n 3, 1) := by decide +kernel
theorem d_L_law_582 : decode code 582 = .ok (.iconst 1, 1) := by decide +kernel
theorem d_L_law_583 : decode code 583 = .ok (.iadd, 1) := by decide +kernel
theorem d_L_law_584 : decode code 584 = .ok (.iaload, 1) := by decide +kernel
theorem d_L_law_585 : decode code 585 = .ok (.invokevirtual 79, 3) := by decide +kernel
theorem d_L_law_588 : decode code 588 = .ok (.lcmp, 1) := by decide +kernel
theorem d_L_law_589 : decode code 589 = .ok (.ifCond .eq 52, 3) := by decide +kernel
theorem d_L_law_592 : decode code 592 = .ok (.iconst 0, 1) := by decide +kernel
theorem d_L_law_593 : decode code 593 = .ok (.ireturn, 1) := by decide +kernel
theorem d_L_law_594 : decode code 594 = .ok (.aload_n 1, 1) := by decide +kernel
theorem d_L_law_595 : decode code 595 = .ok (.aload_n 0, 1) := by decide +kernel
theorem d_L_law_596 : decode code 596 = .ok (.iload_n 3, 1) := by decide +kernel
theorem d_L_law_597 : decode code 597 = .ok (.iconst 1, 1) := by decide +kernel
theorem d_L_law_598 : decode code 598 = .ok (.iadd, 1) := by decide +kernel
theorem d_L_law_599 : decode code 599 = .ok (.iaload, 1) := by decide +kernel
theorem d_L_law_600 : decode code 600 = .ok (.invokevirtual 80, 3) := by decide +kernel
theorem d_L_law_603 : decode code 603 = .ok (.aload_n 2, 1) := by decide +kernel
theorem d_L_law_604 : decode code 604 = .ok (.aload_n 0, 1) := by decide +kernel
theorem d_L_law_605 : decode code 605 = .ok (.iload_n 3, 1) := by decide +kernel
theorem d_L_law_606 : decode code 606 = .ok (.iconst 1, 1) := by decide +kernel
theorem d_L_law_607 : decode code 607 = .ok (.iadd, 1) := by decide +kernel
theorem d_L_law_608 : decode code 608 = .ok (.iaload, 1) := by decide +kernel
theorem d_L_law_609 : decode code 609 = .ok (.invokevirtual 83, 3) := by decide +kernel
theorem d_L_law_612 : decode code 612 = .ok (.lcmp, 1) := by decide +kernel
theorem d_L_law_613 : decode code 613 = .ok (.ifCond .eq 28, 3) := by decide +kernel
theorem d_L_law_616 : decode code 616 = .ok (.iconst 0, 1) := by decide +kernel
theorem d_L_law_617 : decode code 617 = .ok (.ireturn, 1) := by decide +kernel
theorem d_L_law_618 : decode code 618 = .ok (.aload_n 1, 1) := by decide +kernel
theorem d_L_law_619 : decode code 619 = .ok (.aload_n 0, 1) := by decide +kernel
theorem d_L_law_620 : decode code 620 = .ok (.iload_n 3, 1) := by decide +kernel
theorem d_L_law_621 : decode code 621 = .ok (.iconst 1, 1) := by decide +kernel
theorem d_L_law_622 : decode code 622 = .ok (.iadd, 1) := by decide +kernel
theorem d_L_law_623 : decode code 623 = .ok (.iaload, 1) := by decide +kernel
theorem d_L_law_624 : decode code 624 = .ok (.invokevirtual 84, 3) := by decide +kernel
theorem d_L_law_627 : decode code 627 = .ok (.aload_n 2, 1) := by decide +kernel
theorem d_L_law_628 : decode code 628 = .ok (.aload_n 0, 1) := by decide +kernel
theorem d_L_law_629 : decode code 629 = .ok (.iload_n 3, 1) := by decide +kernel
theorem d_L_law_630 : decode code 630 = .ok (.iconst 1, 1) := by decide +kernel
theorem d_L_law_631 : decode code 631 = .ok (.iadd, 1) := by decide +kernel
theorem d_L_law_632 : decode code 632 = .ok (.iaload, 1) := by decide +kernel
theorem d_L_law_633 : decode code 633 = .ok (.invokevirtual 87, 3) := by decide +kernel
theorem d_L_law_636 : decode code 636 = .ok (.if_icmp .eq 5, 3) := by decide +kernel
theorem d_L_law_639 : decode code 639 = .ok (.iconst 0, 1) := by decide +kernel
theorem d_L_law_640 : decode code 640 = .ok (.ireturn, 1) := by decide +kernel
theorem d_L_law_641 : decode code 641 = .ok (.iinc 3 4, 3) := by decide +kernel
theorem d_L_law_644 : decode code 644 = .ok (.goto (-626), 3) := by decide +kernel
theorem d_L_law_647 : decode code 647 = .ok (.iconst 1, 1) := by decide +kernel
theorem d_L_law_648 : decode code 648 = .ok (.ireturn, 1) := by decide +kernel
end
section
/-! A calculus of methods over a pure picture of their world: pG (a point of a method), pC (a method's contract). Written by wip/whole/gen_kit.py. -/
abbrev pE : Type := (Nat × (Nat → Int32)) ⊕ ((Nat × (Nat → Int64)) ⊕ (Nat × List Value))
abbrev pW : Type := List (Nat × pE)
def p_e (cI cJ : ClassId) (x : pE) : va_E := match x with
  | .inl a => .inl (cI, a.1, .inl a.2)
  | .inr (.inl a) => .inl (cJ, a.1, .inr (.inl a.2))
  | .inr (.inr o) => .inr o
def p_w (cI cJ : ClassId) (w : pW) : va_W := w.map (fun q => (q.1, p_e cI cJ q.2))
theorem p_at {cI cJ : ClassId} {w : pW} {k a : Nat} {x : pE} (h : w[k]? = some (a, x)) : (p_w cI cJ w)[k]? = some (a, p_e cI cJ x) := by
  unfold p_w
  rw [List.getElem?_map, h]
  rfl
theorem p_set {cI cJ : ClassId} {w : pW} (k a : Nat) (x : pE) : (p_w cI cJ w).set k (a, p_e cI cJ x) = p_w cI cJ (w.set k (a, x)) := by
  unfold p_w
  rw [List.map_set]
theorem p_app {cI cJ : ClassId} {w v : pW} : p_w cI cJ (w ++ v) = p_w cI cJ w ++ p_w cI cJ v := List.map_append
def pTy (cI cJ : ClassId) : List (ClassId × FieldType) := [(cI, .int), (cJ, .long)]
def nbx (j : Nat) : Int32 := ([1, 1, 2, 2, 2, 2, 1, 2, 2, 2, 2, 1, 2, 2] : List Int32).getD j 0
def nby (j : Nat) : Int32 := ([0, 0, 1, 2, 1, 1, 0, 0, 2, 2, 1, 0, 2, 3] : List Int32).getD j 0
def pN (U : State) : Prop := va_Nw (.methodLinkNest R_K 18 y_S_init "ProofKernel") U ∧ va_Nw (.methodLinkNest R_K 34 y_B_init "ProofKernel") U ∧ va_Nw (.methodLinkNest R_B 35 y_K_isIn "ProofKernel") U ∧ va_Nw (.fieldLinkNest R_B 60 "ProofKernel" "NAMED_BY_X" "[I" "ProofKernel") U ∧ va_Nw (.fieldLinkNest R_B 63 "ProofKernel" "NAMED_BY_Y" "[I" "ProofKernel") U
def pZ (τ : Nat × Nat) (A : Nat → Prop) (U : State) (H : Heap) : Prop :=
  ((va_Z "ProofKernel" "NAMED_BY_X" "[I" (.ref τ.1) A U H ∧ va_T .int τ.1 14 (fun j => .int (nbx j)) A U H) ∧ (va_Z "ProofKernel" "NAMED_BY_Y" "[I" (.ref τ.2) A U H ∧ va_T .int τ.2 14 (fun j => .int (nby j)) A U H)) ∧ pN U
theorem pN.warm {s U : State} (hW : s.WarmedH U.vm) (h : pN s) : pN U := ⟨va_Nw.warmM hW h.1, va_Nw.warmM hW h.2.1, va_Nw.warmM hW h.2.2.1, va_Nw.warmF hW h.2.2.2.1, va_Nw.warmF hW h.2.2.2.2⟩
theorem pN.same {s U : State} (e : s.vm = U.vm) (h : pN s) : pN U := ⟨va_Nw.same rfl e h.1, va_Nw.same rfl e h.2.1, va_Nw.same rfl e h.2.2.1, va_Nw.same rfl e h.2.2.2.1, va_Nw.same rfl e h.2.2.2.2⟩
theorem pZ.blind {τ : Nat × Nat} {A : Nat → Prop} {U : State} (g : JFrame) (mk : MethodId) (a : Array Value) (h : pZ τ A U U.heap) : pZ τ A (U.calling g mk a) (U.calling g mk a).heap := by
  obtain ⟨⟨⟨h1, h2⟩, ⟨h3, h4⟩⟩, h5⟩ := h
  exact ⟨⟨⟨va_Z.moved (u := U) (U := U.calling g mk a) (Vm.Alike.refl U.vm) h1, va_T.moved (u := U) (U := U.calling g mk a) (Vm.Alike.refl U.vm) h2⟩, ⟨va_Z.moved (u := U) (U := U.calling g mk a) (Vm.Alike.refl U.vm) h3, va_T.moved (u := U) (U := U.calling g mk a) (Vm.Alike.refl U.vm) h4⟩⟩, pN.same (s := U) (U := U.calling g mk a) rfl h5⟩
theorem pZ.go {τ : Nat × Nat} {A B : Nat → Prop} {s U : State} {H : Heap} {locs : List Loc} (hS : va_S A s.heap H locs) (hAB : ∀ q, B q → A q) (hU : U.heap = H) (hW : s.WarmedH U.vm) (h : pZ τ A s s.heap) : pZ τ B U U.heap := by
  obtain ⟨⟨⟨h1, h2⟩, ⟨h3, h4⟩⟩, h5⟩ := h
  rw [hU]
  exact ⟨⟨⟨((h1.kept hS.2.1).narrow hAB).moved hW.alike, ((h2.kept hS.2.1).narrow hAB).moved hW.alike⟩, ⟨((h3.kept hS.2.1).narrow hAB).moved hW.alike, ((h4.kept hS.2.1).narrow hAB).moved hW.alike⟩⟩, h5.warm hW⟩
abbrev p_ws (M : pMD) : List Cond := Cond.code M.1 M.2.1 M.2.2.1 M.2.2.2.1 :: pTB
def pQc (D : va_G) (cI cJ : ClassId) (A : Nat → Prop) (Q : Option Value → pW → Prop) : Array Value → State → Outcome → State → Prop := fun _ st oc t => (∃ (r : Option Value) (w : pW), oc = .returned r ∧ Q r w ∧ va_P D pCl (p_w cI cJ w) t.heap ∧ va_D A (p_w cI cJ w)) ∧ va_F A st t
def pCx (M : pMD) (τ : Nat × Nat) (p : Program) (s : State) (m : MethodId) (args : Array Value) (meth : Method) (c : Code) (D : va_G) (cI cJ : ClassId) (A : Nat → Prop) : Prop :=
  p.tables.exec = Jvm.exec ∧ c.code = M.2.1 ∧ meth.sig.returnType = M.2.2.2.1 ∧ c.maxLocals = M.2.2.1 ∧ (∀ w ∈ pTB, w.before args s = true) ∧ s.vm.findClass M.1.cls = some m.cls ∧ meth.locks = false ∧ meth.name = M.1.name ∧ va_K D pCl (pTy cI cJ) s ∧ (∀ q, s.heap.size ≤ q → A q) ∧ pZ τ A s s.heap
def pG (M : pMD) (τ : Nat × Nat) (Q : Option Value → pW → Prop) (k n pc : Nat) (ls : List (Nat × Value)) (st : List Value) (w : pW) : Prop :=
  ∀ (p : Program) (l : Launch) (e : Env) (s : State) (m : MethodId) (args : Array Value) (below : List Frame) (meth : Method) (c : Code) (D : va_G) (cI cJ : ClassId) (A : Nat → Prop) (H : Heap) (L : Array Slot) (locs : List Loc),
    pCx M τ p s m args meth c D cI cJ A → lv_has L M.2.2.1 ls → va_P D pCl (p_w cI cJ w) H → va_D A (p_w cI cJ w) → va_S A s.heap H locs →
    W p l e M.2.2.2.2 s m args below meth c H locs k n (MQ below (pQc D cI cJ A Q) args s M.2.2.2.2.cells M.2.2.2.2.slots A) (F0 m pc L st)
def pC (M : pMD) (τ : Nat × Nat) (as : List Value) (w : pW) (Q : Option Value → pW → Prop) : Prop := ∀ (l : Launch) (D : va_G) (cI cJ : ClassId) (sz : Nat),
  Met l M.1 (p_ws M) M.2.2.2.2 (va_Pc as (fun U => U.heap.size = sz ∧ va_P D pCl (p_w cI cJ w) U.heap ∧ va_K D pCl (pTy cI cJ) U ∧ va_D (fun _ => True) (p_w cI cJ w) ∧ pZ τ (va_A (p_w cI cJ w) sz) U U.heap)) (pQc D cI cJ (va_A (p_w cI cJ w) sz) Q) M.2.2.2.2.cells M.2.2.2.2.slots (va_A (p_w cI cJ w) sz)
theorem pC.of {M : pMD} {τ : Nat × Nat} {as : List Value} {w : pW} {Q : Option Value → pW → Prop} (hy : plainName M.1.cls = true) (hl : (lg_sl as).length ≤ M.2.2.1) (h : pG M τ Q 0 0 0 (lv_args 0 as) [] w) : pC M τ as w Q := by
  intro l D cI cJ sz
  refine Met.ofW (cc := M.2.1) (maxL := M.2.2.1) (ret := M.2.2.2.1) hy rfl ?_
  intro p e s m args below meth c s₁ B hml hv
  obtain ⟨rfl, hsz, hP, hK, hD0, hZ⟩ := hv
  subst hsz
  have hD := hD0.self (sz := s.heap.size)
  have hl' := lv_entry as (n := M.2.2.1) hl
  rw [lg_entry_eq]
  exact h p l e s m _ below meth c D cI cJ _ s.heap _ [] ⟨B.exec, B.bytes, B.returns, hml, fun w hw => atoms_spec (ws := p_ws M) B.pre w (List.mem_cons_of_mem _ hw), findClass_of_methodNamed B.named, B.notSynchronized, (name_of_methodNamed B.named B.method).1, hK, fun q h => Or.inr h, hZ⟩ hl' hP hD va_S.rf
section pRules
variable {M : pMD} {τ : Nat × Nat} {Q : Option Value → pW → Prop} {k n pc : Nat} {ls : List (Nat × Value)} {rest : List Value} {w : pW}
theorem g_mem : ∀ {ls : List (Nat × Value)} {i : Nat} {v : Value}, ls.lookup i = some v → (i, v) ∈ ls
  | [], i, v, hk => by simp at hk
  | (a, b) :: t, i, v, hk => by
    rw [List.lookup_cons] at hk
    cases e : i == a with
    | true =>
      rw [e] at hk
      have e2 : i = a := by simpa using e
      have e3 : b = v := by simpa using hk
      rw [e2, e3]
      exact List.mem_cons_self
    | false =>
      rw [e] at hk
      exact List.mem_cons_of_mem _ (g_mem hk)
theorem g_look {L : Array Slot} {nL i : Nat} {v : Value} (h : lv_has L nL ls) (hk : ls.lookup i = some v) : L[i]? = some (.val v) := h.2.2 (i, v) (g_mem hk)

theorem g_iconst {z : Int} {v : Int32} (hd : decode M.2.1 pc = .ok (.iconst z, 1)) (hv : Int32.ofInt z = v) (kk : pG M τ Q k n (pc + 1) ls (.int v :: rest) w) : pG M τ Q k n pc ls rest w := by
  intro p l e s m args below meth c D cI cJ A H L locs C hl hP hD hS
  exact lv_iconst C.1 C.2.1 hd hv (kk p l e s m args below meth c D cI cJ A H L locs C hl hP hD hS)
theorem g_bipush {z : Int} {v : Int32} (hd : decode M.2.1 pc = .ok (.bipush z, 2)) (hv : (Int8.ofInt z).toInt32 = v) (kk : pG M τ Q k n (pc + 2) ls (.int v :: rest) w) : pG M τ Q k n pc ls rest w := by
  intro p l e s m args below meth c D cI cJ A H L locs C hl hP hD hS
  exact lv_bipush C.1 C.2.1 hd hv (kk p l e s m args below meth c D cI cJ A H L locs C hl hP hD hS)
theorem g_sipush {z : Int} {v : Int32} (hd : decode M.2.1 pc = .ok (.sipush z, 3)) (hv : (Int16.ofInt z).toInt32 = v) (kk : pG M τ Q k n (pc + 3) ls (.int v :: rest) w) : pG M τ Q k n pc ls rest w := by
  intro p l e s m args below meth c D cI cJ A H L locs C hl hP hD hS
  exact lv_sipush C.1 C.2.1 hd hv (kk p l e s m args below meth c D cI cJ A H L locs C hl hP hD hS)
theorem g_lconst {z : Fin 2} {v : Int64} (hd : decode M.2.1 pc = .ok (.lconst z, 1)) (hv : Int64.ofNat (z : Nat) = v) (kk : pG M τ Q k n (pc + 1) ls (.long v :: rest) w) : pG M τ Q k n pc ls rest w := by
  intro p l e s m args below meth c D cI cJ A H L locs C hl hP hD hS
  exact lv_lconst C.1 C.2.1 hd hv (kk p l e s m args below meth c D cI cJ A H L locs C hl hP hD hS)
theorem g_ldc {ix : Nat} {v : Int32} (hd : decode M.2.1 pc = .ok (.ldc ix, 2)) (hw : Cond.constant M.1.cls ix v ∈ pTB) (kk : pG M τ Q k n (pc + 2) ls (.int v :: rest) w) : pG M τ Q k n pc ls rest w := by
  intro p l e s m args below meth c D cI cJ A H L locs C hl hP hD hS
  exact lv_ldc C.1 C.2.1 C.2.2.2.2.2.1 (C.2.2.2.2.1 _ hw) hd (kk p l e s m args below meth c D cI cJ A H L locs C hl hP hD hS)
theorem g_ldc2 {ix : Nat} {v : Int64} (hd : decode M.2.1 pc = .ok (.ldc2_w ix, 3)) (hw : Cond.constantLong M.1.cls ix v ∈ pTB) (kk : pG M τ Q k n (pc + 3) ls (.long v :: rest) w) : pG M τ Q k n pc ls rest w := by
  intro p l e s m args below meth c D cI cJ A H L locs C hl hP hD hS
  exact lv_ldc2 C.1 C.2.1 C.2.2.2.2.2.1 (C.2.2.2.2.1 _ hw) hd (kk p l e s m args below meth c D cI cJ A H L locs C hl hP hD hS)
theorem g_iload_n {z : Fin 4} {x : Int32} (hd : decode M.2.1 pc = .ok (.iload_n z, 1)) (hk : ls.lookup (z : Nat) = some (.int x)) (kk : pG M τ Q k n (pc + 1) ls (.int x :: rest) w) : pG M τ Q k n pc ls rest w := by
  intro p l e s m args below meth c D cI cJ A H L locs C hl hP hD hS
  exact lv_iload_n C.1 C.2.1 hd rfl (g_look hl hk) (kk p l e s m args below meth c D cI cJ A H L locs C hl hP hD hS)
theorem g_iload {z : Nat} {x : Int32} (hd : decode M.2.1 pc = .ok (.iload z, 2)) (hk : ls.lookup z = some (.int x)) (kk : pG M τ Q k n (pc + 2) ls (.int x :: rest) w) : pG M τ Q k n pc ls rest w := by
  intro p l e s m args below meth c D cI cJ A H L locs C hl hP hD hS
  exact lv_iload C.1 C.2.1 hd (g_look hl hk) (kk p l e s m args below meth c D cI cJ A H L locs C hl hP hD hS)
theorem g_lload_n {z : Fin 4} {x : Int64} (hd : decode M.2.1 pc = .ok (.lload_n z, 1)) (hk : ls.lookup (z : Nat) = some (.long x)) (kk : pG M τ Q k n (pc + 1) ls (.long x :: rest) w) : pG M τ Q k n pc ls rest w := by
  intro p l e s m args below meth c D cI cJ A H L locs C hl hP hD hS
  exact lv_lload_n C.1 C.2.1 hd rfl (g_look hl hk) (kk p l e s m args below meth c D cI cJ A H L locs C hl hP hD hS)
theorem g_lload {z : Nat} {x : Int64} (hd : decode M.2.1 pc = .ok (.lload z, 2)) (hk : ls.lookup z = some (.long x)) (kk : pG M τ Q k n (pc + 2) ls (.long x :: rest) w) : pG M τ Q k n pc ls rest w := by
  intro p l e s m args below meth c D cI cJ A H L locs C hl hP hD hS
  exact lv_lload C.1 C.2.1 hd (g_look hl hk) (kk p l e s m args below meth c D cI cJ A H L locs C hl hP hD hS)
theorem g_aload_n {z : Fin 4} {x : Nat} (hd : decode M.2.1 pc = .ok (.aload_n z, 1)) (hk : ls.lookup (z : Nat) = some (.ref x)) (kk : pG M τ Q k n (pc + 1) ls (.ref x :: rest) w) : pG M τ Q k n pc ls rest w := by
  intro p l e s m args below meth c D cI cJ A H L locs C hl hP hD hS
  exact lv_aload_n C.1 C.2.1 hd rfl (g_look hl hk) (kk p l e s m args below meth c D cI cJ A H L locs C hl hP hD hS)
theorem g_aload {z : Nat} {x : Nat} (hd : decode M.2.1 pc = .ok (.aload z, 2)) (hk : ls.lookup z = some (.ref x)) (kk : pG M τ Q k n (pc + 2) ls (.ref x :: rest) w) : pG M τ Q k n pc ls rest w := by
  intro p l e s m args below meth c D cI cJ A H L locs C hl hP hD hS
  exact lv_aload C.1 C.2.1 hd (g_look hl hk) (kk p l e s m args below meth c D cI cJ A H L locs C hl hP hD hS)
theorem g_istore_n {z : Fin 4} {x : Int32} (ls2 : List (Nat × Value)) (hd : decode M.2.1 pc = .ok (.istore_n z, 1)) (hn : (z : Nat) < M.2.2.1) (hs : ((z : Nat), Value.int x) :: ls.filter (fun q => !(q.1 == (z : Nat)) && !(q.1 + 1 == (z : Nat) && q.2.category == 2)) = ls2) (kk : pG M τ Q k n (pc + 1) ls2 rest w) : pG M τ Q k n pc ls (.int x :: rest) w := by
  intro p l e s m args below meth c D cI cJ A H L locs C hl hP hD hS
  exact lv_istore_n C.1 C.2.1 hd rfl hl hn hs (fun L hl => kk p l e s m args below meth c D cI cJ A H L locs C hl hP hD hS)
theorem g_istore {z : Nat} {x : Int32} (ls2 : List (Nat × Value)) (hd : decode M.2.1 pc = .ok (.istore z, 2)) (hn : z < M.2.2.1) (hs : (z, Value.int x) :: ls.filter (fun q => !(q.1 == z) && !(q.1 + 1 == z && q.2.category == 2)) = ls2) (kk : pG M τ Q k n (pc + 2) ls2 rest w) : pG M τ Q k n pc ls (.int x :: rest) w := by
  intro p l e s m args below meth c D cI cJ A H L locs C hl hP hD hS
  exact lv_istore C.1 C.2.1 hd hl hn hs (fun L hl => kk p l e s m args below meth c D cI cJ A H L locs C hl hP hD hS)
theorem g_lstore_n {z : Fin 4} {x : Int64} (ls2 : List (Nat × Value)) (hd : decode M.2.1 pc = .ok (.lstore_n z, 1)) (hn : (z : Nat) + 1 < M.2.2.1) (hs : ((z : Nat), Value.long x) :: ls.filter (fun q => !(q.1 == (z : Nat)) && (!(q.1 == (z : Nat) + 1) && !(q.1 + 1 == (z : Nat) && q.2.category == 2))) = ls2) (kk : pG M τ Q k n (pc + 1) ls2 rest w) : pG M τ Q k n pc ls (.long x :: rest) w := by
  intro p l e s m args below meth c D cI cJ A H L locs C hl hP hD hS
  exact lv_lstore_n C.1 C.2.1 hd rfl hl hn hs (fun L hl => kk p l e s m args below meth c D cI cJ A H L locs C hl hP hD hS)
theorem g_lstore {z : Nat} {x : Int64} (ls2 : List (Nat × Value)) (hd : decode M.2.1 pc = .ok (.lstore z, 2)) (hn : z + 1 < M.2.2.1) (hs : (z, Value.long x) :: ls.filter (fun q => !(q.1 == z) && (!(q.1 == z + 1) && !(q.1 + 1 == z && q.2.category == 2))) = ls2) (kk : pG M τ Q k n (pc + 2) ls2 rest w) : pG M τ Q k n pc ls (.long x :: rest) w := by
  intro p l e s m args below meth c D cI cJ A H L locs C hl hP hD hS
  exact lv_lstore C.1 C.2.1 hd hl hn hs (fun L hl => kk p l e s m args below meth c D cI cJ A H L locs C hl hP hD hS)
theorem g_astore_n {z : Fin 4} {x : Nat} (ls2 : List (Nat × Value)) (hd : decode M.2.1 pc = .ok (.astore_n z, 1)) (hn : (z : Nat) < M.2.2.1) (hs : ((z : Nat), Value.ref x) :: ls.filter (fun q => !(q.1 == (z : Nat)) && !(q.1 + 1 == (z : Nat) && q.2.category == 2)) = ls2) (kk : pG M τ Q k n (pc + 1) ls2 rest w) : pG M τ Q k n pc ls (.ref x :: rest) w := by
  intro p l e s m args below meth c D cI cJ A H L locs C hl hP hD hS
  exact lv_astore_n C.1 C.2.1 hd rfl hl hn hs (fun L hl => kk p l e s m args below meth c D cI cJ A H L locs C hl hP hD hS)
theorem g_astore {z : Nat} {x : Nat} (ls2 : List (Nat × Value)) (hd : decode M.2.1 pc = .ok (.astore z, 2)) (hn : z < M.2.2.1) (hs : (z, Value.ref x) :: ls.filter (fun q => !(q.1 == z) && !(q.1 + 1 == z && q.2.category == 2)) = ls2) (kk : pG M τ Q k n (pc + 2) ls2 rest w) : pG M τ Q k n pc ls (.ref x :: rest) w := by
  intro p l e s m args below meth c D cI cJ A H L locs C hl hP hD hS
  exact lv_astore C.1 C.2.1 hd hl hn hs (fun L hl => kk p l e s m args below meth c D cI cJ A H L locs C hl hP hD hS)
theorem g_iinc {z : Nat} {d : Int} {x v : Int32} (ls2 : List (Nat × Value)) (hd : decode M.2.1 pc = .ok (.iinc z d, 3)) (hk : ls.lookup z = some (.int x)) (hv : x + Int32.ofInt d = v) (hn : z < M.2.2.1) (hs : (z, Value.int v) :: ls.filter (fun q => !(q.1 == z) && !(q.1 + 1 == z && q.2.category == 2)) = ls2) (kk : pG M τ Q k n (pc + 3) ls2 rest w) : pG M τ Q k n pc ls rest w := by
  intro p l e s m args below meth c D cI cJ A H L locs C hl hP hD hS
  obtain ⟨j, hj⟩ := List.mem_iff_getElem?.mp (g_mem hk)
  exact lv_iinc C.1 C.2.1 hd hl hj hv hn hs (fun L hl => kk p l e s m args below meth c D cI cJ A H L locs C hl hP hD hS)
theorem g_iadd {x y : Int32} (hd : decode M.2.1 pc = .ok (.iadd, 1)) (kk : pG M τ Q k n (pc + 1) ls (.int (x + y) :: rest) w) : pG M τ Q k n pc ls (.int y :: .int x :: rest) w := by
  intro p l e s m args below meth c D cI cJ A H L locs C hl hP hD hS
  exact lv_iadd C.1 C.2.1 hd (kk p l e s m args below meth c D cI cJ A H L locs C hl hP hD hS)
theorem g_isub {x y : Int32} (hd : decode M.2.1 pc = .ok (.isub, 1)) (kk : pG M τ Q k n (pc + 1) ls (.int (x - y) :: rest) w) : pG M τ Q k n pc ls (.int y :: .int x :: rest) w := by
  intro p l e s m args below meth c D cI cJ A H L locs C hl hP hD hS
  exact lv_isub C.1 C.2.1 hd (kk p l e s m args below meth c D cI cJ A H L locs C hl hP hD hS)
theorem g_imul {x y : Int32} (hd : decode M.2.1 pc = .ok (.imul, 1)) (kk : pG M τ Q k n (pc + 1) ls (.int (x * y) :: rest) w) : pG M τ Q k n pc ls (.int y :: .int x :: rest) w := by
  intro p l e s m args below meth c D cI cJ A H L locs C hl hP hD hS
  exact lv_imul C.1 C.2.1 hd (kk p l e s m args below meth c D cI cJ A H L locs C hl hP hD hS)
theorem g_iand {x y : Int32} (hd : decode M.2.1 pc = .ok (.iand, 1)) (kk : pG M τ Q k n (pc + 1) ls (.int (x &&& y) :: rest) w) : pG M τ Q k n pc ls (.int y :: .int x :: rest) w := by
  intro p l e s m args below meth c D cI cJ A H L locs C hl hP hD hS
  exact lv_iand C.1 C.2.1 hd (kk p l e s m args below meth c D cI cJ A H L locs C hl hP hD hS)
theorem g_ior {x y : Int32} (hd : decode M.2.1 pc = .ok (.ior, 1)) (kk : pG M τ Q k n (pc + 1) ls (.int (x ||| y) :: rest) w) : pG M τ Q k n pc ls (.int y :: .int x :: rest) w := by
  intro p l e s m args below meth c D cI cJ A H L locs C hl hP hD hS
  exact lv_ior C.1 C.2.1 hd (kk p l e s m args below meth c D cI cJ A H L locs C hl hP hD hS)
theorem g_ishl {x y : Int32} (hd : decode M.2.1 pc = .ok (.ishl, 1)) (kk : pG M τ Q k n (pc + 1) ls (.int (x <<< (y &&& 31)) :: rest) w) : pG M τ Q k n pc ls (.int y :: .int x :: rest) w := by
  intro p l e s m args below meth c D cI cJ A H L locs C hl hP hD hS
  exact lv_ishl C.1 C.2.1 hd (kk p l e s m args below meth c D cI cJ A H L locs C hl hP hD hS)
theorem g_ishr {x y : Int32} (hd : decode M.2.1 pc = .ok (.ishr, 1)) (kk : pG M τ Q k n (pc + 1) ls (.int (x >>> (y &&& 31)) :: rest) w) : pG M τ Q k n pc ls (.int y :: .int x :: rest) w := by
  intro p l e s m args below meth c D cI cJ A H L locs C hl hP hD hS
  exact lv_ishr C.1 C.2.1 hd (kk p l e s m args below meth c D cI cJ A H L locs C hl hP hD hS)
theorem g_idiv {x y : Int32} (hd : decode M.2.1 pc = .ok (.idiv, 1)) (hne : ¬ y = 0) (kk : pG M τ Q k n (pc + 1) ls (.int (x / y) :: rest) w) : pG M τ Q k n pc ls (.int y :: .int x :: rest) w := by
  intro p l e s m args below meth c D cI cJ A H L locs C hl hP hD hS
  exact lv_idiv C.1 C.2.1 hd hne (kk p l e s m args below meth c D cI cJ A H L locs C hl hP hD hS)
theorem g_irem {x y : Int32} (hd : decode M.2.1 pc = .ok (.irem, 1)) (hne : ¬ y = 0) (kk : pG M τ Q k n (pc + 1) ls (.int (x - x / y * y) :: rest) w) : pG M τ Q k n pc ls (.int y :: .int x :: rest) w := by
  intro p l e s m args below meth c D cI cJ A H L locs C hl hP hD hS
  exact lv_irem C.1 C.2.1 hd hne (kk p l e s m args below meth c D cI cJ A H L locs C hl hP hD hS)
theorem g_land {x y : Int64} (hd : decode M.2.1 pc = .ok (.land, 1)) (kk : pG M τ Q k n (pc + 1) ls (.long (x &&& y) :: rest) w) : pG M τ Q k n pc ls (.long y :: .long x :: rest) w := by
  intro p l e s m args below meth c D cI cJ A H L locs C hl hP hD hS
  exact lv_land C.1 C.2.1 hd (kk p l e s m args below meth c D cI cJ A H L locs C hl hP hD hS)
theorem g_lor {x y : Int64} (hd : decode M.2.1 pc = .ok (.lor, 1)) (kk : pG M τ Q k n (pc + 1) ls (.long (x ||| y) :: rest) w) : pG M τ Q k n pc ls (.long y :: .long x :: rest) w := by
  intro p l e s m args below meth c D cI cJ A H L locs C hl hP hD hS
  exact lv_lor C.1 C.2.1 hd (kk p l e s m args below meth c D cI cJ A H L locs C hl hP hD hS)
theorem g_lxor {x y : Int64} (hd : decode M.2.1 pc = .ok (.lxor, 1)) (kk : pG M τ Q k n (pc + 1) ls (.long (x ^^^ y) :: rest) w) : pG M τ Q k n pc ls (.long y :: .long x :: rest) w := by
  intro p l e s m args below meth c D cI cJ A H L locs C hl hP hD hS
  exact lv_lxor C.1 C.2.1 hd (kk p l e s m args below meth c D cI cJ A H L locs C hl hP hD hS)
theorem g_lshl {x : Int64} {y : Int32} (hd : decode M.2.1 pc = .ok (.lshl, 1)) (kk : pG M τ Q k n (pc + 1) ls (.long (x <<< (y.toInt64 &&& 63)) :: rest) w) : pG M τ Q k n pc ls (.int y :: .long x :: rest) w := by
  intro p l e s m args below meth c D cI cJ A H L locs C hl hP hD hS
  exact lv_lshl C.1 C.2.1 hd rfl (kk p l e s m args below meth c D cI cJ A H L locs C hl hP hD hS)
theorem g_lshr {x : Int64} {y : Int32} (hd : decode M.2.1 pc = .ok (.lshr, 1)) (kk : pG M τ Q k n (pc + 1) ls (.long (x >>> (y.toInt64 &&& 63)) :: rest) w) : pG M τ Q k n pc ls (.int y :: .long x :: rest) w := by
  intro p l e s m args below meth c D cI cJ A H L locs C hl hP hD hS
  exact lv_lshr C.1 C.2.1 hd rfl (kk p l e s m args below meth c D cI cJ A H L locs C hl hP hD hS)
theorem g_lcmp {x y : Int64} (hd : decode M.2.1 pc = .ok (.lcmp, 1)) (kk : pG M τ Q k n (pc + 1) ls (.int (lg_cmp x y) :: rest) w) : pG M τ Q k n pc ls (.long y :: .long x :: rest) w := by
  intro p l e s m args below meth c D cI cJ A H L locs C hl hP hD hS
  exact W.lcmp C.1 C.2.1 hd (kk p l e s m args below meth c D cI cJ A H L locs C hl hP hD hS)
theorem g_dup {v : Value} (hd : decode M.2.1 pc = .ok (.dup, 1)) (hv : v.category = 1) (kk : pG M τ Q k n (pc + 1) ls (v :: v :: rest) w) : pG M τ Q k n pc ls (v :: rest) w := by
  intro p l e s m args below meth c D cI cJ A H L locs C hl hP hD hS
  exact lv_dup C.1 C.2.1 hd hv (kk p l e s m args below meth c D cI cJ A H L locs C hl hP hD hS)
theorem g_topi {x : Int32} (y : Int32) (e : x = y) (kk : pG M τ Q k n pc ls (.int y :: rest) w) : pG M τ Q k n pc ls (.int x :: rest) w := by
  rw [e]
  exact kk
theorem g_topl {x : Int64} (y : Int64) (e : x = y) (kk : pG M τ Q k n pc ls (.long y :: rest) w) : pG M τ Q k n pc ls (.long x :: rest) w := by
  rw [e]
  exact kk
theorem g_if_eq {x : Int32} {off : Int} {tgt : Nat} (hd : decode M.2.1 pc = .ok (.ifCond .eq off, 3)) (ht : (pc : Int) + off = (tgt : Int)) (kt : x = 0 → pG M τ Q k n tgt ls rest w) (kf : ¬ (x = 0) → pG M τ Q k n (pc + 3) ls rest w) : pG M τ Q k n pc ls (.int x :: rest) w := by
  intro p l e s m args below meth c D cI cJ A H L locs C hl hP hD hS
  exact lv_if_eq C.1 C.2.1 hd ht (fun h => kt h p l e s m args below meth c D cI cJ A H L locs C hl hP hD hS) (fun h => kf h p l e s m args below meth c D cI cJ A H L locs C hl hP hD hS)
theorem g_icmp_eq {x y : Int32} {off : Int} {tgt : Nat} (hd : decode M.2.1 pc = .ok (.if_icmp .eq off, 3)) (ht : (pc : Int) + off = (tgt : Int)) (kt : x = y → pG M τ Q k n tgt ls rest w) (kf : ¬ (x = y) → pG M τ Q k n (pc + 3) ls rest w) : pG M τ Q k n pc ls (.int y :: .int x :: rest) w := by
  intro p l e s m args below meth c D cI cJ A H L locs C hl hP hD hS
  exact lv_icmp_eq C.1 C.2.1 hd ht (fun h => kt h p l e s m args below meth c D cI cJ A H L locs C hl hP hD hS) (fun h => kf h p l e s m args below meth c D cI cJ A H L locs C hl hP hD hS)
theorem g_if_ne {x : Int32} {off : Int} {tgt : Nat} (hd : decode M.2.1 pc = .ok (.ifCond .ne off, 3)) (ht : (pc : Int) + off = (tgt : Int)) (kt : ¬ x = 0 → pG M τ Q k n tgt ls rest w) (kf : x = 0 → pG M τ Q k n (pc + 3) ls rest w) : pG M τ Q k n pc ls (.int x :: rest) w := by
  intro p l e s m args below meth c D cI cJ A H L locs C hl hP hD hS
  exact lv_if_ne C.1 C.2.1 hd ht (fun h => kt h p l e s m args below meth c D cI cJ A H L locs C hl hP hD hS) (fun h => kf h p l e s m args below meth c D cI cJ A H L locs C hl hP hD hS)
theorem g_icmp_ne {x y : Int32} {off : Int} {tgt : Nat} (hd : decode M.2.1 pc = .ok (.if_icmp .ne off, 3)) (ht : (pc : Int) + off = (tgt : Int)) (kt : ¬ x = y → pG M τ Q k n tgt ls rest w) (kf : x = y → pG M τ Q k n (pc + 3) ls rest w) : pG M τ Q k n pc ls (.int y :: .int x :: rest) w := by
  intro p l e s m args below meth c D cI cJ A H L locs C hl hP hD hS
  exact lv_icmp_ne C.1 C.2.1 hd ht (fun h => kt h p l e s m args below meth c D cI cJ A H L locs C hl hP hD hS) (fun h => kf h p l e s m args below meth c D cI cJ A H L locs C hl hP hD hS)
theorem g_if_lt {x : Int32} {off : Int} {tgt : Nat} (hd : decode M.2.1 pc = .ok (.ifCond .lt off, 3)) (ht : (pc : Int) + off = (tgt : Int)) (kt : x < 0 → pG M τ Q k n tgt ls rest w) (kf : ¬ (x < 0) → pG M τ Q k n (pc + 3) ls rest w) : pG M τ Q k n pc ls (.int x :: rest) w := by
  intro p l e s m args below meth c D cI cJ A H L locs C hl hP hD hS
  exact lv_if_lt C.1 C.2.1 hd ht (fun h => kt h p l e s m args below meth c D cI cJ A H L locs C hl hP hD hS) (fun h => kf h p l e s m args below meth c D cI cJ A H L locs C hl hP hD hS)
theorem g_icmp_lt {x y : Int32} {off : Int} {tgt : Nat} (hd : decode M.2.1 pc = .ok (.if_icmp .lt off, 3)) (ht : (pc : Int) + off = (tgt : Int)) (kt : x < y → pG M τ Q k n tgt ls rest w) (kf : ¬ (x < y) → pG M τ Q k n (pc + 3) ls rest w) : pG M τ Q k n pc ls (.int y :: .int x :: rest) w := by
  intro p l e s m args below meth c D cI cJ A H L locs C hl hP hD hS
  exact lv_icmp_lt C.1 C.2.1 hd ht (fun h => kt h p l e s m args below meth c D cI cJ A H L locs C hl hP hD hS) (fun h => kf h p l e s m args below meth c D cI cJ A H L locs C hl hP hD hS)
theorem g_if_ge {x : Int32} {off : Int} {tgt : Nat} (hd : decode M.2.1 pc = .ok (.ifCond .ge off, 3)) (ht : (pc : Int) + off = (tgt : Int)) (kt : 0 ≤ x → pG M τ Q k n tgt ls rest w) (kf : ¬ (0 ≤ x) → pG M τ Q k n (pc + 3) ls rest w) : pG M τ Q k n pc ls (.int x :: rest) w := by
  intro p l e s m args below meth c D cI cJ A H L locs C hl hP hD hS
  exact lv_if_ge C.1 C.2.1 hd ht (fun h => kt h p l e s m args below meth c D cI cJ A H L locs C hl hP hD hS) (fun h => kf h p l e s m args below meth c D cI cJ A H L locs C hl hP hD hS)
theorem g_icmp_ge {x y : Int32} {off : Int} {tgt : Nat} (hd : decode M.2.1 pc = .ok (.if_icmp .ge off, 3)) (ht : (pc : Int) + off = (tgt : Int)) (kt : y ≤ x → pG M τ Q k n tgt ls rest w) (kf : ¬ (y ≤ x) → pG M τ Q k n (pc + 3) ls rest w) : pG M τ Q k n pc ls (.int y :: .int x :: rest) w := by
  intro p l e s m args below meth c D cI cJ A H L locs C hl hP hD hS
  exact lv_icmp_ge C.1 C.2.1 hd ht (fun h => kt h p l e s m args below meth c D cI cJ A H L locs C hl hP hD hS) (fun h => kf h p l e s m args below meth c D cI cJ A H L locs C hl hP hD hS)
theorem g_if_gt {x : Int32} {off : Int} {tgt : Nat} (hd : decode M.2.1 pc = .ok (.ifCond .gt off, 3)) (ht : (pc : Int) + off = (tgt : Int)) (kt : 0 < x → pG M τ Q k n tgt ls rest w) (kf : ¬ (0 < x) → pG M τ Q k n (pc + 3) ls rest w) : pG M τ Q k n pc ls (.int x :: rest) w := by
  intro p l e s m args below meth c D cI cJ A H L locs C hl hP hD hS
  exact lv_if_gt C.1 C.2.1 hd ht (fun h => kt h p l e s m args below meth c D cI cJ A H L locs C hl hP hD hS) (fun h => kf h p l e s m args below meth c D cI cJ A H L locs C hl hP hD hS)
theorem g_icmp_gt {x y : Int32} {off : Int} {tgt : Nat} (hd : decode M.2.1 pc = .ok (.if_icmp .gt off, 3)) (ht : (pc : Int) + off = (tgt : Int)) (kt : y < x → pG M τ Q k n tgt ls rest w) (kf : ¬ (y < x) → pG M τ Q k n (pc + 3) ls rest w) : pG M τ Q k n pc ls (.int y :: .int x :: rest) w := by
  intro p l e s m args below meth c D cI cJ A H L locs C hl hP hD hS
  exact lv_icmp_gt C.1 C.2.1 hd ht (fun h => kt h p l e s m args below meth c D cI cJ A H L locs C hl hP hD hS) (fun h => kf h p l e s m args below meth c D cI cJ A H L locs C hl hP hD hS)
theorem g_if_le {x : Int32} {off : Int} {tgt : Nat} (hd : decode M.2.1 pc = .ok (.ifCond .le off, 3)) (ht : (pc : Int) + off = (tgt : Int)) (kt : x ≤ 0 → pG M τ Q k n tgt ls rest w) (kf : ¬ (x ≤ 0) → pG M τ Q k n (pc + 3) ls rest w) : pG M τ Q k n pc ls (.int x :: rest) w := by
  intro p l e s m args below meth c D cI cJ A H L locs C hl hP hD hS
  exact lv_if_le C.1 C.2.1 hd ht (fun h => kt h p l e s m args below meth c D cI cJ A H L locs C hl hP hD hS) (fun h => kf h p l e s m args below meth c D cI cJ A H L locs C hl hP hD hS)
theorem g_icmp_le {x y : Int32} {off : Int} {tgt : Nat} (hd : decode M.2.1 pc = .ok (.if_icmp .le off, 3)) (ht : (pc : Int) + off = (tgt : Int)) (kt : x ≤ y → pG M τ Q k n tgt ls rest w) (kf : ¬ (x ≤ y) → pG M τ Q k n (pc + 3) ls rest w) : pG M τ Q k n pc ls (.int y :: .int x :: rest) w := by
  intro p l e s m args below meth c D cI cJ A H L locs C hl hP hD hS
  exact lv_icmp_le C.1 C.2.1 hd ht (fun h => kt h p l e s m args below meth c D cI cJ A H L locs C hl hP hD hS) (fun h => kf h p l e s m args below meth c D cI cJ A H L locs C hl hP hD hS)
theorem g_goto {off : Int} {tgt : Nat} (hd : decode M.2.1 pc = .ok (.goto off, 3)) (ht : (pc : Int) + off = (tgt : Int)) (kk : pG M τ Q k n tgt ls rest w) : pG M τ Q k n pc ls rest w := by
  intro p l e s m args below meth c D cI cJ A H L locs C hl hP hD hS
  exact lv_goto C.1 C.2.1 hd ht (kk p l e s m args below meth c D cI cJ A H L locs C hl hP hD hS)
theorem g_tableOut {dflt lo hi : Int} {offs : Array Int} {len : Nat} {x : Int32} {tgt : Nat} (hd : decode M.2.1 pc = .ok (.tableswitch dflt lo hi offs, len)) (h : x.toInt < lo ∨ hi < x.toInt) (ht : (pc : Int) + dflt = (tgt : Int)) (kk : pG M τ Q k n tgt ls rest w) : pG M τ Q k n pc ls (.int x :: rest) w := by
  intro p l e s m args below meth c D cI cJ A H L locs C hl hP hD hS
  exact lv_tableOut C.1 C.2.1 hd h ht (kk p l e s m args below meth c D cI cJ A H L locs C hl hP hD hS)
theorem g_tableIn {dflt lo hi : Int} {offs : Array Int} {len : Nat} {x : Int32} {off : Int} {tgt : Nat} (hd : decode M.2.1 pc = .ok (.tableswitch dflt lo hi offs, len)) (h1 : ¬ x.toInt < lo) (h2 : ¬ hi < x.toInt) (ho : offs[(x.toInt - lo).toNat]? = some off) (ht : (pc : Int) + off = (tgt : Int)) (kk : pG M τ Q k n tgt ls rest w) : pG M τ Q k n pc ls (.int x :: rest) w := by
  intro p l e s m args below meth c D cI cJ A H L locs C hl hP hD hS
  exact lv_tableIn C.1 C.2.1 hd h1 h2 ho ht (kk p l e s m args below meth c D cI cJ A H L locs C hl hP hD hS)
theorem g_pick {st : List Value} (ks : List Nat) (ls2 : List (Nat × Value)) (hp : lv_pick ls ks = ls2) (kk : pG M τ Q k n pc ls2 st w) : pG M τ Q k n pc ls st w := by
  intro p l e s m args below meth c D cI cJ A H L locs C hl hP hD hS
  exact kk p l e s m args below meth c D cI cJ A H L locs C (lv_sub hl ks hp) hP hD hS
theorem g_get {ix ci N q a j : Nat} {T : u_T} {Cn : String} {fs : List Value} {v : Value} (hd : decode M.2.1 pc = .ok (.getfield ix, 3)) (he : w[q]? = some (a, .inr (.inr (ci, fs)))) (hc : pCl[ci]? = some (Cn, T, N)) (hin : ∀ w ∈ u_ws Cn T N, w ∈ pTB) (hj : j < N) (hw : Cond.fieldLink M.1.cls ix Cn (T j).2.1 (T j).2.2.1 ∈ pTB) (hcn : (T j).1 = Cn) (hv : fs[j]? = some v) (kk : pG M τ Q k n (pc + 3) ls (v :: rest) w) : pG M τ Q k n pc ls (.ref a :: rest) w := by
  intro p l e s m args below meth c D cI cJ A H L locs C hl hP hD hS
  exact va_get C.1 C.2.1 C.2.2.2.2.1 hin C.2.2.2.2.2.1 C.2.2.2.2.2.2.2.2.1 hP q (p_at he) hc j hj (C.2.2.2.2.1 _ hw) (fun x hx => by rw [← hcn]; exact hx) hv hd (kk p l e s m args below meth c D cI cJ A H L locs C hl hP hD hS)
theorem g_put {ix ci N q a j : Nat} {T : u_T} {Cn : String} {fs : List Value} {v : Value} {ty0 : Nat → FieldType} {ty : FieldType} (w2 : pW) (hd : decode M.2.1 pc = .ok (.putfield ix, 3)) (he : w[q]? = some (a, .inr (.inr (ci, fs)))) (hc : pCl[ci]? = some (Cn, T, N)) (hin : ∀ w ∈ u_ws Cn T N, w ∈ pTB) (hty : ∀ k, k < N → parseFieldDescriptor (T k).2.2.1 = some (ty0 k)) (hnm : ∀ a, a < N → ∀ b, b < N → a ≠ b → (T a).2.1 ≠ (T b).2.1) (hj : j < N) (hw : Cond.fieldLink M.1.cls ix Cn (T j).2.1 (T j).2.2.1 ∈ pTB) (hcn : (T j).1 = Cn) (hfin : (T j).2.2.2 = false) (hpd : parseFieldDescriptor (T j).2.2.1 = some ty) (hn : narrow ty v = v) (hf : fits ty v = true) (hl : j < fs.length) (hs : w.set q (a, .inr (.inr (ci, fs.set j v))) = w2) (kk : pG M τ Q k n (pc + 3) ls rest w2) : pG M τ Q k n pc ls (v :: .ref a :: rest) w := by
  intro p l e s m args below meth c D cI cJ A H L locs C hll hP hD hS
  exact va_put C.1 C.2.1 C.2.2.2.2.1 hin ty0 hty hnm C.2.2.2.2.2.1 C.2.2.2.2.2.2.2.2.1 hP hD hS q (p_at he) hc j hj (C.2.2.2.2.1 _ hw) (fun x hx => by rw [← hcn]; exact hx) hfin hpd hn hf hl hd (fun H locs hP hD hS => by
    rw [show (a, (Sum.inr (ci, fs.set j v) : va_E)) = (a, p_e cI cJ (.inr (.inr (ci, fs.set j v)))) from rfl, p_set] at hP hD
    subst hs
    exact kk p l e s m args below meth c D cI cJ A H L locs C hll hP hD hS)
theorem g_putF {ix ci N q a j : Nat} {T : u_T} {Cn : String} {fs : List Value} {v : Value} {ty0 : Nat → FieldType} {ty : FieldType} (w2 : pW) (hd : decode M.2.1 pc = .ok (.putfield ix, 3)) (he : w[q]? = some (a, .inr (.inr (ci, fs)))) (hc : pCl[ci]? = some (Cn, T, N)) (hin : ∀ w ∈ u_ws Cn T N, w ∈ pTB) (hty : ∀ k, k < N → parseFieldDescriptor (T k).2.2.1 = some (ty0 k)) (hnm : ∀ a, a < N → ∀ b, b < N → a ≠ b → (T a).2.1 ≠ (T b).2.1) (hj : j < N) (hw : Cond.fieldLink M.1.cls ix Cn (T j).2.1 (T j).2.2.1 ∈ pTB) (hcn : (T j).1 = Cn) (hfin : (T j).2.2.2 = true) (hi : M.1.name = "<init>") (ho : Cn = M.1.cls) (hpd : parseFieldDescriptor (T j).2.2.1 = some ty) (hn : narrow ty v = v) (hf : fits ty v = true) (hl : j < fs.length) (hs : w.set q (a, .inr (.inr (ci, fs.set j v))) = w2) (kk : pG M τ Q k n (pc + 3) ls rest w2) : pG M τ Q k n pc ls (v :: .ref a :: rest) w := by
  intro p l e s m args below meth c D cI cJ A H L locs C hll hP hD hS
  exact va_putF C.1 C.2.1 C.2.2.2.2.1 hin ty0 hty hnm C.2.2.2.2.2.1 C.2.2.2.2.2.2.2.2.1 hP hD hS q (p_at he) hc j hj (C.2.2.2.2.1 _ hw) (fun x hx => by rw [← hcn]; exact hx) hfin (C.2.2.2.2.2.2.2.1.trans hi) (hcn.trans ho) hpd hn hf hl hd (fun H locs hP hD hS => by
    rw [show (a, (Sum.inr (ci, fs.set j v) : va_E)) = (a, p_e cI cJ (.inr (.inr (ci, fs.set j v)))) from rfl, p_set] at hP hD
    subst hs
    exact kk p l e s m args below meth c D cI cJ A H L locs C hll hP hD hS)
theorem g_iald {q a N : Nat} {f : Nat → Int32} {i : Int32} {v : Int32} (hd : decode M.2.1 pc = .ok (.iaload, 1)) (he : w[q]? = some (a, .inl (N, f))) (hi : vp_in i N) (hv : f i.toNatClampNeg = v) (kk : pG M τ Q k n (pc + 1) ls (.int v :: rest) w) : pG M τ Q k n pc ls (.int i :: .ref a :: rest) w := by
  intro p l e s m args below meth c D cI cJ A H L locs C hl hP hD hS
  subst hv
  exact va_iald C.1 C.2.1 C.2.2.2.2.2.2.2.2.1 hP q 0 (p_at he) rfl hi hd (kk p l e s m args below meth c D cI cJ A H L locs C hl hP hD hS)
theorem g_lald {q a N : Nat} {f : Nat → Int64} {i : Int32} {v : Int64} (hd : decode M.2.1 pc = .ok (.laload, 1)) (he : w[q]? = some (a, .inr (.inl (N, f)))) (hi : vp_in i N) (hv : f i.toNatClampNeg = v) (kk : pG M τ Q k n (pc + 1) ls (.long v :: rest) w) : pG M τ Q k n pc ls (.int i :: .ref a :: rest) w := by
  intro p l e s m args below meth c D cI cJ A H L locs C hl hP hD hS
  subst hv
  exact va_lald C.1 C.2.1 C.2.2.2.2.2.2.2.2.1 hP q 1 (p_at he) rfl hi hd (kk p l e s m args below meth c D cI cJ A H L locs C hl hP hD hS)
theorem g_iast {q a N : Nat} {f : Nat → Int32} {i : Int32} {x : Int32} (w2 : pW) (hd : decode M.2.1 pc = .ok (.iastore, 1)) (he : w[q]? = some (a, .inl (N, f))) (hi : vp_in i N) (hs : w.set q (a, .inl (N, upd f i.toNatClampNeg x)) = w2) (kk : pG M τ Q k n (pc + 1) ls rest w2) : pG M τ Q k n pc ls (.int x :: .int i :: .ref a :: rest) w := by
  intro p l e s m args below meth c D cI cJ A H L locs C hl hP hD hS
  exact va_iast C.1 C.2.1 C.2.2.2.2.2.2.2.2.1 hP hD hS q 0 (p_at he) rfl hi hd (fun H locs hP hD hS => by
    rw [show (a, (Sum.inl (cI, N, .inl (upd f i.toNatClampNeg x)) : va_E)) = (a, p_e cI cJ (.inl (N, upd f i.toNatClampNeg x))) from rfl, p_set] at hP hD
    subst hs
    exact kk p l e s m args below meth c D cI cJ A H L locs C hl hP hD hS)
theorem g_last {q a N : Nat} {f : Nat → Int64} {i : Int32} {x : Int64} (w2 : pW) (hd : decode M.2.1 pc = .ok (.lastore, 1)) (he : w[q]? = some (a, .inr (.inl (N, f)))) (hi : vp_in i N) (hs : w.set q (a, .inr (.inl (N, vp_updL f i.toNatClampNeg x))) = w2) (kk : pG M τ Q k n (pc + 1) ls rest w2) : pG M τ Q k n pc ls (.long x :: .int i :: .ref a :: rest) w := by
  intro p l e s m args below meth c D cI cJ A H L locs C hl hP hD hS
  exact va_last C.1 C.2.1 C.2.2.2.2.2.2.2.2.1 hP hD hS q 1 (p_at he) rfl hi hd (fun H locs hP hD hS => by
    rw [show (a, (Sum.inl (cJ, N, .inr (.inl (vp_updL f i.toNatClampNeg x))) : va_E)) = (a, p_e cI cJ (.inr (.inl (N, vp_updL f i.toNatClampNeg x)))) from rfl, p_set] at hP hD
    subst hs
    exact kk p l e s m args below meth c D cI cJ A H L locs C hl hP hD hS)
theorem g_alen {q a N : Nat} {f : Nat → Int32} {v : Int32} (hd : decode M.2.1 pc = .ok (.arraylength, 1)) (he : w[q]? = some (a, .inl (N, f))) (hv : Int32.ofNat N = v) (kk : pG M τ Q k n (pc + 1) ls (.int v :: rest) w) : pG M τ Q k n pc ls (.ref a :: rest) w := by
  intro p l e s m args below meth c D cI cJ A H L locs C hl hP hD hS
  exact va_alen C.1 C.2.1 C.2.2.2.2.2.2.2.2.1 hP q 0 (p_at he) (ty := .int) rfl hv hd (kk p l e s m args below meth c D cI cJ A H L locs C hl hP hD hS)
theorem g_iret {v : Int32} (hd : decode M.2.1 pc = .ok (.ireturn, 1)) (hr : M.2.2.2.1 = some .int) (hc : k ≤ M.2.2.2.2.cells) (hm : n ≤ M.2.2.2.2.slots) (hq : Q (some (.int v)) w) : pG M τ Q k n pc ls [.int v] w := by
  intro p l e s m args below meth c D cI cJ A H L locs C hl hP hD hS
  refine W.widen (k := M.2.2.2.2.cells) (n := M.2.2.2.2.slots) hc hm ?_
  exact W.iret C.1 C.2.1 (C.2.2.1.trans hr) (fun t ht hW => ⟨⟨_, w, rfl, hq, by rw [ht]; exact hP, hD⟩, hS.F ht⟩) hS.2.2 hd C.2.2.2.2.2.2.1
theorem g_lret {v : Int64} (hd : decode M.2.1 pc = .ok (.lreturn, 1)) (hr : M.2.2.2.1 = some .long) (hc : k ≤ M.2.2.2.2.cells) (hm : n ≤ M.2.2.2.2.slots) (hq : Q (some (.long v)) w) : pG M τ Q k n pc ls [.long v] w := by
  intro p l e s m args below meth c D cI cJ A H L locs C hl hP hD hS
  refine W.widen (k := M.2.2.2.2.cells) (n := M.2.2.2.2.slots) hc hm ?_
  exact W.lret C.1 C.2.1 (C.2.2.1.trans hr) (fun t ht hW => ⟨⟨_, w, rfl, hq, by rw [ht]; exact hP, hD⟩, hS.F ht⟩) hS.2.2 hd C.2.2.2.2.2.2.1
theorem g_vret  (hd : decode M.2.1 pc = .ok (.return_, 1)) (hr : M.2.2.2.1 = none) (hc : k ≤ M.2.2.2.2.cells) (hm : n ≤ M.2.2.2.2.slots) (hq : Q (none) w) : pG M τ Q k n pc ls [] w := by
  intro p l e s m args below meth c D cI cJ A H L locs C hl hP hD hS
  refine W.widen (k := M.2.2.2.2.cells) (n := M.2.2.2.2.slots) hc hm ?_
  exact W.vret C.1 C.2.1 (C.2.2.1.trans hr) (fun t ht hW => ⟨⟨_, w, rfl, hq, by rw [ht]; exact hP, hD⟩, hS.F ht⟩) hS.2.2 hd C.2.2.2.2.2.2.1
theorem g_zret {v : Int32} (hd : decode M.2.1 pc = .ok (.ireturn, 1)) (hr : M.2.2.2.1 = some .boolean) (hn : narrow .boolean (.int v) = .int v) (hc : k ≤ M.2.2.2.2.cells) (hm : n ≤ M.2.2.2.2.slots) (hq : Q (some (.int v)) w) : pG M τ Q k n pc ls [.int v] w := by
  intro p l e s m args below meth c D cI cJ A H L locs C hl hP hD hS
  refine W.widen (k := M.2.2.2.2.cells) (n := M.2.2.2.2.slots) hc hm ?_
  exact W.zret C.1 C.2.1 (C.2.2.1.trans hr) hn (fun t ht hW => ⟨⟨_, w, rfl, hq, by rw [ht]; exact hP, hD⟩, hS.F ht⟩) hS.2.2 hd C.2.2.2.2.2.2.1
theorem g_getsX {ix : Nat} (hd : decode M.2.1 pc = .ok (.getstatic ix, 3)) (hw : Cond.fieldLink M.1.cls ix "ProofKernel" "NAMED_BY_X" "[I" ∈ pTB) (kk : pG M τ Q k n (pc + 3) ls (.ref τ.1 :: rest) w) : pG M τ Q k n pc ls rest w := by
  intro p l e s m args below meth c D cI cJ A H L locs C hl hP hD hS
  exact va_gets C.1 C.2.1 C.2.2.2.2.2.2.2.2.2.2.1.1.1 hS C.2.2.2.2.2.1 (C.2.2.2.2.1 _ hw) (fun _ h => h) hd (kk p l e s m args below meth c D cI cJ A H L locs C hl hP hD hS)
theorem g_getsXN  (hd : decode M.2.1 pc = .ok (.getstatic 60, 3)) (hm : M.1.cls = R_B) (kk : pG M τ Q k n (pc + 3) ls (.ref τ.1 :: rest) w) : pG M τ Q k n pc ls rest w := by
  intro p l e s m args below meth c D cI cJ A H L locs C hl hP hD hS
  exact va_getsN C.1 C.2.1 C.2.2.2.2.2.2.2.2.2.2.1.1.1 hS (by rw [← hm]; exact C.2.2.2.2.2.1) (va_Nw.use rfl C.2.2.2.2.2.2.2.2.2.2.2.2.2.2.1) (fun _ h => h) hd (kk p l e s m args below meth c D cI cJ A H L locs C hl hP hD hS)
theorem g_saldX {i v : Int32} (hd : decode M.2.1 pc = .ok (.iaload, 1)) (hi : vp_in i 14) (hv : nbx i.toNatClampNeg = v) (kk : pG M τ Q k n (pc + 1) ls (.int v :: rest) w) : pG M τ Q k n pc ls (.int i :: .ref τ.1 :: rest) w := by
  intro p l e s m args below meth c D cI cJ A H L locs C hl hP hD hS
  exact va_ti C.1 C.2.1 C.2.2.2.2.2.2.2.2.2.2.1.1.2 hS hi (by rw [hv]) hd (kk p l e s m args below meth c D cI cJ A H L locs C hl hP hD hS)
theorem g_getsY {ix : Nat} (hd : decode M.2.1 pc = .ok (.getstatic ix, 3)) (hw : Cond.fieldLink M.1.cls ix "ProofKernel" "NAMED_BY_Y" "[I" ∈ pTB) (kk : pG M τ Q k n (pc + 3) ls (.ref τ.2 :: rest) w) : pG M τ Q k n pc ls rest w := by
  intro p l e s m args below meth c D cI cJ A H L locs C hl hP hD hS
  exact va_gets C.1 C.2.1 C.2.2.2.2.2.2.2.2.2.2.1.2.1 hS C.2.2.2.2.2.1 (C.2.2.2.2.1 _ hw) (fun _ h => h) hd (kk p l e s m args below meth c D cI cJ A H L locs C hl hP hD hS)
theorem g_getsYN  (hd : decode M.2.1 pc = .ok (.getstatic 63, 3)) (hm : M.1.cls = R_B) (kk : pG M τ Q k n (pc + 3) ls (.ref τ.2 :: rest) w) : pG M τ Q k n pc ls rest w := by
  intro p l e s m args below meth c D cI cJ A H L locs C hl hP hD hS
  exact va_getsN C.1 C.2.1 C.2.2.2.2.2.2.2.2.2.2.1.2.1 hS (by rw [← hm]; exact C.2.2.2.2.2.1) (va_Nw.use rfl C.2.2.2.2.2.2.2.2.2.2.2.2.2.2.2) (fun _ h => h) hd (kk p l e s m args below meth c D cI cJ A H L locs C hl hP hD hS)
theorem g_saldY {i v : Int32} (hd : decode M.2.1 pc = .ok (.iaload, 1)) (hi : vp_in i 14) (hv : nby i.toNatClampNeg = v) (kk : pG M τ Q k n (pc + 1) ls (.int v :: rest) w) : pG M τ Q k n pc ls (.int i :: .ref τ.2 :: rest) w := by
  intro p l e s m args below meth c D cI cJ A H L locs C hl hP hD hS
  exact va_ti C.1 C.2.1 C.2.2.2.2.2.2.2.2.2.2.1.2.2 hS hi (by rw [hv]) hd (kk p l e s m args below meth c D cI cJ A H L locs C hl hP hD hS)
end pRules
end
section
/-! Calls, new objects and arrays, in the calculus pG. -/
def pV (M : pMD) (nA : Nat) : Prop := Cond.code M.1 M.2.1 M.2.2.1 M.2.2.2.1 ∈ pTB ∧ Cond.instanceMethod M.1 ∈ pTB ∧ Cond.selects M.1.cls M.1 M.1 ∈ pTB ∧ Cond.initialized M.1.cls ∈ pTB ∧ (M.1.cls ≠ "java/lang/invoke/MethodHandle" ∧ M.1.cls ≠ "java/lang/invoke/VarHandle" ∧ (parseMethodDescriptor M.1.desc).map (fun d => d.parameters.length) = some nA)
def pS (M : pMD) (nA : Nat) : Prop := Cond.code M.1 M.2.1 M.2.2.1 M.2.2.2.1 ∈ pTB ∧ Cond.static M.1 ∈ pTB ∧ Cond.initialized M.1.cls ∈ pTB ∧ (M.1.cls ≠ "java/lang/invoke/MethodHandle" ∧ M.1.cls ≠ "java/lang/invoke/VarHandle" ∧ (parseMethodDescriptor M.1.desc).map (fun d => d.parameters.length) = some nA)
def pI (M : pMD) (nA : Nat) : Prop := Cond.code M.1 M.2.1 M.2.2.1 none ∈ pTB ∧ Cond.instanceMethod M.1 ∈ pTB ∧ Cond.initialized M.1.cls ∈ pTB ∧ M.2.2.2.1 = none ∧ M.1.name = "<init>" ∧ (M.1.cls ≠ "java/lang/invoke/MethodHandle" ∧ M.1.cls ≠ "java/lang/invoke/VarHandle" ∧ (parseMethodDescriptor M.1.desc).map (fun d => d.parameters.length) = some nA)
abbrev pRm (M M' : pMD) (k n : Nat) : Prop := (M'.2.2.2.2.frames + 1 ≤ M.2.2.2.2.frames ∧ 8 + (M'.2.2.1 + 11) + M'.2.2.2.2.locals ≤ M.2.2.2.2.locals) ∧ k + M'.2.2.2.2.cells ≤ M.2.2.2.2.cells ∧ n + M'.2.2.2.2.slots ≤ M.2.2.2.2.slots
theorem pGood {ws : List Cond} (h : ∀ w ∈ ws, w ∈ pTB) : GoodIn pTB ws := fun w hw => ⟨h w hw, pTBg (h w hw)⟩
theorem pAB {A : Nat → Prop} {cI cJ : ClassId} {w : pW} {s : State} {H : Heap} {locs : List Loc} (hD : va_D A (p_w cI cJ w)) (hS : va_S A s.heap H locs) (hA : ∀ q, s.heap.size ≤ q → A q) : ∀ q, va_A (p_w cI cJ w) H.size q → A q := by
  intro q h
  rcases h with ⟨k, e, h⟩ | h
  · exact hD.2 k (q, e) h
  · exact hA q (Nat.le_trans hS.1 h)
theorem pBlind {τ : Nat × Nat} {as : List Value} {w : pW} {D : va_G} {cI cJ : ClassId} {sz : Nat} : FrameBlind (va_Pc as (fun U => U.heap.size = sz ∧ va_P D pCl (p_w cI cJ w) U.heap ∧ va_K D pCl (pTy cI cJ) U ∧ va_D (fun _ => True) (p_w cI cJ w) ∧ pZ τ (va_A (p_w cI cJ w) sz) U U.heap)) := fun a U g mk q => by
  obtain ⟨q0, q1, qP, qK, qD, qZ⟩ := q
  exact ⟨q0, q1, qP, va_K.moved (u := U) (U := U.calling g mk a) (Vm.Alike.refl U.vm) qK, qD, pZ.blind g mk a qZ⟩
theorem pPre {M : pMD} {τ : Nat × Nat} {p : Program} {s : State} {m : MethodId} {args : Array Value} {meth : Method} {c : Code} {D : va_G} {cI cJ : ClassId} {A : Nat → Prop} {H : Heap} {locs : List Loc} {w : pW} (as : List Value) (C : pCx M τ p s m args meth c D cI cJ A) (hP : va_P D pCl (p_w cI cJ w) H) (hD : va_D A (p_w cI cJ w)) (hS : va_S A s.heap H locs) (U : State) (hU : U.heap = H) (hW : s.WarmedH U.vm) :
    va_Pc as (fun U => U.heap.size = H.size ∧ va_P D pCl (p_w cI cJ w) U.heap ∧ va_K D pCl (pTy cI cJ) U ∧ va_D (fun _ => True) (p_w cI cJ w) ∧ pZ τ (va_A (p_w cI cJ w) H.size) U U.heap) as.toArray U :=
  ⟨rfl, by rw [hU], by rw [hU]; exact hP, va_K.moved hW.alike C.2.2.2.2.2.2.2.2.1, hD.weaken (fun _ _ _ _ => trivial), pZ.go hS (pAB hD hS C.2.2.2.2.2.2.2.2.2.1) hU hW C.2.2.2.2.2.2.2.2.2.2⟩
theorem pAfter {p : Program} {l : Launch} {e : Env} {R : Room} {s : State} {m : MethodId} {args : Array Value} {below : List Frame} {meth : Method} {c : Code} {H : Heap} {locs : List Loc} {k n mc ms pc : Nat} {L : Array Slot} {st rest : List Value} {D : va_G} {cI cJ : ClassId} {A B : Nat → Prop} {Q' : Option Value → pW → Prop} {a : Array Value} {QQ : State → Prop}
    (hr : va_Run p l e R s m args below meth c H locs k n mc ms (F0 m pc L st) rest (pQc D cI cJ B Q' a) B) (hS : va_S A s.heap H locs) (hAB : ∀ q, B q → A q)
    (kk : ∀ (r : Option Value) (w' : pW) (H1 : Heap) (locs1 : List Loc), Q' r w' → va_P D pCl (p_w cI cJ w') H1 → va_D A (p_w cI cJ w') → va_S A s.heap H1 locs1 → W p l e R s m args below meth c H1 locs1 (k + mc) (n + ms) QQ (F0 m (pc + 3) L (r.toList ++ rest))) :
    W p l e R s m args below meth c H locs k n QQ (F0 m pc L st) := by
  intro T hT X
  obtain ⟨v, st₀, t, T', L', h0, X', hL, e1, e2, ⟨⟨r, w', hv, hq, hP', hD'⟩, hz, hk⟩, stp⟩ := hr T hT X
  cases hv
  rw [h0] at hz hk
  obtain ⟨t2, a1, b1⟩ := kk v w' T'.heap (locs ++ L') hq (by rw [e1]; exact hP') (hD'.weaken (fun _ _ _ h => hAB _ h))
    ⟨Nat.le_trans hS.1 (by rw [e1]; exact hz), fun q h1 h2 => by rw [e1, hk q (Nat.lt_of_lt_of_le h1 hS.1) (fun z => h2 (hAB q z))]; exact hS.2.1 q h1 h2, fun q hq => by
      rcases List.mem_append.mp hq with h | h
      · exact hS.2.2 q h
      · exact hAB _ (hL q h)⟩ T' rfl X'
  exact ⟨t2, stp t2 a1, b1⟩
section pCalls
variable {M M' : pMD} {τ : Nat × Nat} {Q Q' : Option Value → pW → Prop} {k n pc ix b q ci N nA : Nat} {ls : List (Nat × Value)} {st rest As : List Value} {w : pW} {T : u_T} {fs : List Value}
theorem g_callV (hd : decode M.2.1 pc = .ok (.invokevirtual ix, 3)) (hl : Cond.methodLink M.1.cls ix M'.1 ∈ pTB) (hC : pC M' τ (.ref b :: As) w Q') (hok : pV M' nA) (hnA : As.length = nA) (he : w[q]? = some (b, .inr (.inr (ci, fs)))) (hc : pCl[ci]? = some (M'.1.cls, T, N)) (hR : pRm M M' k n) (hst : st = As.reverse ++ .ref b :: rest) (hW : (rest.map fun v => v.category).sum ≤ 8)
    (kk : ∀ (r : Option Value) (w' : pW), Q' r w' → pG M τ Q (k + M'.2.2.2.2.cells) (n + M'.2.2.2.2.slots) (pc + 3) ls (r.toList ++ rest) w') : pG M τ Q k n pc ls st w := by
  intro p l e s m args below meth c D cI cJ A H L locs C hll hP hD hS
  subst hst
  obtain ⟨o1, o2, o3, o4, o5⟩ := hok
  have hG : GoodIn pTB (wsV M.1.cls ix M'.1.cls M'.1 (p_ws M')) := pGood (fun w hw => by
    simp only [wsV, List.cons_append, List.nil_append, List.mem_cons] at hw
    rcases hw with rfl | rfl | rfl | rfl | rfl | hw
    · exact hl
    · exact o2
    · exact o3
    · exact o4
    · exact o1
    · exact hw)
  have hAB := pAB hD hS C.2.2.2.2.2.2.2.2.2.1
  refine pAfter (rest := rest) (va_runV (C := M'.1.cls) (b := b) (As := As) (rest := rest) ⟨C.1, C.2.1, C.2.2.2.1, C.2.2.2.2.2.1, C.2.2.2.2.1⟩ (hC l D cI cJ H.size) (cwV nA C.2.2.2.2.1 hG rfl rfl rfl ⟨rfl, o5⟩ hR.1) ⟨pBlind, va_recv C.2.2.2.2.2.2.2.2.1 hP hc (p_at he), fun U hU hW => pPre _ C hP hD hS U hU hW⟩ rfl hnA hll.1 rfl (lv_room hW) hd hR.2) hS hAB (fun r w' H1 locs1 hq hP1 hD1 hS1 => ?_)
  exact kk r w' hq p l e s m args below meth c D cI cJ A H1 L locs1 C hll hP1 hD1 hS1
theorem g_callS (hd : decode M.2.1 pc = .ok (.invokestatic ix, 3)) (hl : Cond.methodLink M.1.cls ix M'.1 ∈ pTB) (hC : pC M' τ As w Q') (hok : pS M' nA) (hnA : As.length = nA) (hR : pRm M M' k n) (hst : st = As.reverse ++ rest) (hW : (rest.map fun v => v.category).sum ≤ 8)
    (kk : ∀ (r : Option Value) (w' : pW), Q' r w' → pG M τ Q (k + M'.2.2.2.2.cells) (n + M'.2.2.2.2.slots) (pc + 3) ls (r.toList ++ rest) w') : pG M τ Q k n pc ls st w := by
  intro p l e s m args below meth c D cI cJ A H L locs C hll hP hD hS
  subst hst
  obtain ⟨o1, o2, o3, o5⟩ := hok
  have hG : GoodIn pTB (va_wsS M.1.cls ix M'.1 (p_ws M')) := pGood (fun w hw => by
    simp only [va_wsS, List.cons_append, List.nil_append, List.mem_cons] at hw
    rcases hw with rfl | rfl | rfl | rfl | hw
    · exact hl
    · exact o2
    · exact o3
    · exact o1
    · exact hw)
  have hAB := pAB hD hS C.2.2.2.2.2.2.2.2.2.1
  refine pAfter (rest := rest) (va_runS (As := As) (rest := rest) ⟨C.1, C.2.1, C.2.2.2.1, C.2.2.2.2.2.1, C.2.2.2.2.1⟩ (hC l D cI cJ H.size) (va_cwS nA C.2.2.2.2.1 hG rfl rfl rfl o5 hR.1) ⟨pBlind, fun U hU hW => pPre _ C hP hD hS U hU hW⟩ rfl hnA hll.1 rfl (lv_room hW) hd hR.2) hS hAB (fun r w' H1 locs1 hq hP1 hD1 hS1 => ?_)
  exact kk r w' hq p l e s m args below meth c D cI cJ A H1 L locs1 C hll hP1 hD1 hS1
/-- Book calls the private static isIn of its nest's host -/
theorem g_callSN (hd : decode M.2.1 pc = .ok (.invokestatic 35, 3)) (hm : M.1.cls = R_B) (hm' : M'.1 = y_K_isIn) (hC : pC M' τ As w Q') (hok : pS M' nA) (hnA : As.length = nA) (hR : pRm M M' k n) (hst : st = As.reverse ++ rest) (hW : (rest.map fun v => v.category).sum ≤ 8)
    (kk : ∀ (r : Option Value) (w' : pW), Q' r w' → pG M τ Q (k + M'.2.2.2.2.cells) (n + M'.2.2.2.2.slots) (pc + 3) ls (r.toList ++ rest) w') : pG M τ Q k n pc ls st w := by
  intro p l e s m args below meth c D cI cJ A H L locs C hll hP hD hS
  subst hst
  obtain ⟨o1, o2, o3, o5⟩ := hok
  have hG : GoodIn pTB (p_ws M') := pGood (fun w hw => by
    rcases List.mem_cons.mp hw with rfl | hw
    · exact o1
    · exact hw)
  have hAB := pAB hD hS C.2.2.2.2.2.2.2.2.2.1
  refine pAfter (rest := rest) (va_runSN (own := R_B) (host := "ProofKernel") (As := As) (rest := rest) ⟨C.1, C.2.1, C.2.2.2.1, by rw [← hm]; exact C.2.2.2.2.2.1, C.2.2.2.2.1⟩ (hC l D cI cJ H.size) ⟨va_cnB nA C.2.2.2.2.1 hG rfl rfl rfl (by rw [hm']; exact C.2.2.2.2.2.2.2.2.2.2.2.2.2.1) (C.2.2.2.2.1 _ o3) o5 hR.1, C.2.2.2.2.1 _ o2, trivial⟩ ⟨pBlind, fun U hU hW => pPre _ C hP hD hS U hU hW⟩ rfl hnA hll.1 rfl (lv_room hW) hd hR.2) hS hAB (fun r w' H1 locs1 hq hP1 hD1 hS1 => ?_)
  exact kk r w' hq p l e s m args below meth c D cI cJ A H1 L locs1 C hll hP1 hD1 hS1
theorem g_callI (hd : decode M.2.1 pc = .ok (.invokespecial ix, 3)) (hl : Cond.methodLink M.1.cls ix M'.1 ∈ pTB) (hC : pC M' τ (.ref b :: As) w Q') (hok : pI M' nA) (hnA : As.length = nA) (hR : pRm M M' k n) (hst : st = As.reverse ++ .ref b :: rest) (hW : (rest.map fun v => v.category).sum ≤ 8)
    (kk : ∀ (r : Option Value) (w' : pW), Q' r w' → pG M τ Q (k + M'.2.2.2.2.cells) (n + M'.2.2.2.2.slots) (pc + 3) ls (r.toList ++ rest) w') : pG M τ Q k n pc ls st w := by
  intro p l e s m args below meth c D cI cJ A H L locs C hll hP hD hS
  subst hst
  obtain ⟨o1, o2, o3, o4, o6, o5⟩ := hok
  have hG : GoodIn pTB (p_ws M') := pGood (fun w hw => by
    rcases List.mem_cons.mp hw with rfl | hw
    · rw [o4]; exact o1
    · exact hw)
  have hAB := pAB hD hS C.2.2.2.2.2.2.2.2.2.1
  refine pAfter (rest := rest) (va_runI (bytes := M'.2.1) (maxL := M'.2.2.1) (b := b) (As := As) (rest := rest) ⟨C.1, C.2.1, C.2.2.2.1, C.2.2.2.2.2.1, C.2.2.2.2.1⟩ (hC l D cI cJ H.size) (cwI nA C.2.2.2.2.1 hG (by rw [← o4]) rfl rfl (C.2.2.2.2.1 _ o3) (C.2.2.2.2.1 _ hl) (C.2.2.2.2.1 _ o2) o6 o5 hR.1) ⟨pBlind, fun U hU hW => pPre _ C hP hD hS U hU hW⟩ rfl hnA hll.1 rfl (lv_room hW) hd hR.2) hS hAB (fun r w' H1 locs1 hq hP1 hD1 hS1 => ?_)
  exact kk r w' hq p l e s m args below meth c D cI cJ A H1 L locs1 C hll hP1 hD1 hS1
/-- ProofKernel calls the private constructors of Shelf and Book -/
theorem g_callIN (hd : decode M.2.1 pc = .ok (.invokespecial ix, 3)) (hm : M.1.cls = R_K) (hl : ∀ U, pN U → va_Nw (.methodLinkNest R_K ix M'.1 "ProofKernel") U) (hC : pC M' τ (.ref b :: As) w Q') (hok : pI M' nA) (hnA : As.length = nA) (hR : pRm M M' k n) (hst : st = As.reverse ++ .ref b :: rest) (hW : (rest.map fun v => v.category).sum ≤ 8)
    (kk : ∀ (r : Option Value) (w' : pW), Q' r w' → pG M τ Q (k + M'.2.2.2.2.cells) (n + M'.2.2.2.2.slots) (pc + 3) ls (r.toList ++ rest) w') : pG M τ Q k n pc ls st w := by
  intro p l e s m args below meth c D cI cJ A H L locs C hll hP hD hS
  subst hst
  obtain ⟨o1, o2, o3, o4, o6, o5⟩ := hok
  have hG : GoodIn pTB (p_ws M') := pGood (fun w hw => by
    rcases List.mem_cons.mp hw with rfl | hw
    · rw [o4]; exact o1
    · exact hw)
  have hAB := pAB hD hS C.2.2.2.2.2.2.2.2.2.1
  refine pAfter (rest := rest) (va_runIN (own := R_K) (host := "ProofKernel") (bytes := M'.2.1) (maxL := M'.2.2.1) (b := b) (As := As) (rest := rest) ⟨C.1, C.2.1, C.2.2.2.1, by rw [← hm]; exact C.2.2.2.2.2.1, C.2.2.2.2.1⟩ (hC l D cI cJ H.size) ⟨va_cnB nA C.2.2.2.2.1 hG (by rw [← o4]) rfl rfl (hl s C.2.2.2.2.2.2.2.2.2.2.2) (C.2.2.2.2.1 _ o3) o5 hR.1, o6, C.2.2.2.2.1 _ o2⟩ ⟨pBlind, fun U hU hW => pPre _ C hP hD hS U hU hW⟩ rfl hnA hll.1 rfl (lv_room hW) hd hR.2) hS hAB (fun r w' H1 locs1 hq hP1 hD1 hS1 => ?_)
  exact kk r w' hq p l e s m args below meth c D cI cJ A H1 L locs1 C hll hP1 hD1 hS1
theorem g_objInit (hd : decode M.2.1 pc = .ok (.invokespecial ix, 3)) (hl : Cond.methodLink M.1.cls ix objectInit ∈ pTB) (hf : 1 ≤ M.2.2.2.2.frames) (hW : (rest.map fun v => v.category).sum + 12 ≤ M.2.2.2.2.locals) (kk : pG M τ Q k n (pc + 3) ls rest w) : pG M τ Q k n pc ls (.ref b :: rest) w := by
  intro p l e s m args below meth c D cI cJ A H L locs C hll hP hD hS
  exact W.objInit C.1 C.2.1 C.2.2.2.2.2.1 (C.2.2.2.2.1 _ hl) (C.2.2.2.2.1 _ pw_oi1) (C.2.2.2.2.1 _ pw_oi2) rfl (by rw [C.2.2.2.1]; exact hll.1) rfl hd hf (by show 2 * 0 + _ + 12 ≤ _; omega) (kk p l e s m args below meth c D cI cJ A H L locs C hll hP hD hS)
theorem g_mmin {x y v : Int32} (hd : decode M.2.1 pc = .ok (.invokestatic ix, 3)) (hl : Cond.methodLink M.1.cls ix Lib.Math.min.name ∈ pTB) (hf : 1 ≤ M.2.2.2.2.frames) (hW : (rest.map fun v => v.category).sum + 13 ≤ M.2.2.2.2.locals) (hc : k ≤ M.2.2.2.2.cells ∧ n ≤ M.2.2.2.2.slots) (hv : (if y < x then y else x) = v) (kk : pG M τ Q k n (pc + 3) ls (.int v :: rest) w) : pG M τ Q k n pc ls (.int y :: .int x :: rest) w := by
  intro p l e s m args below meth c D cI cJ A H L locs C hll hP hD hS
  subst hv
  exact va_mmin C.1 C.2.1 (C.2.2.2.1.trans hll.1.symm) C.2.2.2.2.2.1 (C.2.2.2.2.1 _ hl) (C.2.2.2.2.1 _ pw_mm1) (C.2.2.2.2.1 _ pw_mm2) (C.2.2.2.2.1 _ pw_mm3) hf hW hc.1 hc.2 hd (kk p l e s m args below meth c D cI cJ A H L locs C hll hP hD hS)
theorem g_copyi {q0 q1 a0 a n0 n1 : Nat} {f g : Nat → Int32} {sp dp z : Int32} (w2 : pW) (hd : decode M.2.1 pc = .ok (.invokestatic ix, 3)) (hl : Cond.methodLink M.1.cls ix arraycopyName ∈ pTB) (hf : 1 ≤ M.2.2.2.2.frames) (hW : (rest.map fun v => v.category).sum + (nativeFrameWords "java/lang/System" "arraycopy" 5 + 11) ≤ M.2.2.2.2.locals)
    (h0 : w[q0]? = some (a0, .inl (n0, f))) (h1 : w[q1]? = some (a, .inl (n1, g))) (e1 : ¬ sp < 0) (e2 : ¬ dp < 0) (e3 : ¬ z < 0) (e4 : sp.toNatClampNeg + z.toNatClampNeg ≤ n0) (e5 : dp.toNatClampNeg + z.toNatClampNeg ≤ n1) (hs : w.set q1 (a, .inl (n1, va_cpy f g sp.toNatClampNeg dp.toNatClampNeg z.toNatClampNeg)) = w2)
    (kk : pG M τ Q k n (pc + 3) ls rest w2) : pG M τ Q k n pc ls (.int z :: .int dp :: .ref a :: .int sp :: .ref a0 :: rest) w := by
  intro p l e s m args below meth c D cI cJ A H L locs C hll hP hD hS
  refine va_copyi C.1 C.2.1 (C.2.2.2.1.trans hll.1.symm) C.2.2.2.2.2.1 (C.2.2.2.2.1 _ hl) (C.2.2.2.2.1 _ pw_ac1) (C.2.2.2.2.1 _ pw_ac2) (C.2.2.2.2.1 _ pw_ac3) C.2.2.2.2.2.2.2.2.1 hP hD hS q0 q1 0 0 (p_at h0) (p_at h1) rfl rfl rfl e1 e2 e3 e4 e5 (fun _ _ => rfl) hf hW hd (fun H locs hP hD hS => ?_)
  rw [show (a, (Sum.inl (cI, n1, .inl (va_cpy f g sp.toNatClampNeg dp.toNatClampNeg z.toNatClampNeg)) : va_E)) = (a, p_e cI cJ (.inl (n1, va_cpy f g sp.toNatClampNeg dp.toNatClampNeg z.toNatClampNeg))) from rfl, p_set] at hP hD
  subst hs
  exact kk p l e s m args below meth c D cI cJ A H L locs C hll hP hD hS
theorem g_new {Cn : String} {ft : Nat → FieldType} (hd : decode M.2.1 pc = .ok (.new ix, 3)) (hcl : Cond.classLink M.1.cls ix Cn ∈ pTB) (hins : Cond.instantiable Cn N ∈ pTB) (hini : Cond.initialized Cn ∈ pTB) (hc : pCl[ci]? = some (Cn, T, N)) (hin : ∀ w ∈ u_ws Cn T N, w ∈ pTB) (hty : ∀ k, k < N → parseFieldDescriptor (T k).2.2.1 = some (ft k)) (hfs : ∀ j, j < N → defaultValue (ft j) = vp_V fs j) (hk : k + 1 ≤ M.2.2.2.2.cells) (hn : n + N ≤ M.2.2.2.2.slots)
    (kk : ∀ a : Nat, pG M τ Q (k + 1) (n + N) (pc + 3) ls (.ref a :: rest) (w ++ [(a, .inr (.inr (ci, fs)))])) : pG M τ Q k n pc ls rest w := by
  intro p l e s m args below meth c D cI cJ A H L locs C hll hP hD hS
  refine va_new C.1 C.2.1 C.2.2.2.2.1 hin ft hty C.2.2.2.2.2.1 (C.2.2.2.2.1 _ hcl) (C.2.2.2.2.1 _ hins) (C.2.2.2.2.1 _ hini) C.2.2.2.2.2.2.2.2.1 hP hD hS C.2.2.2.2.2.2.2.2.2.1 hc hfs hk hn hd (fun a H1 hP1 hD1 hS1 => ?_)
  rw [show ([(a, Sum.inr (ci, fs))] : va_W) = p_w cI cJ [(a, .inr (.inr (ci, fs)))] from rfl, ← p_app] at hP1 hD1
  exact kk a p l e s m args below meth c D cI cJ A H1 L locs C hll hP1 hD1 hS1
theorem g_newI {z : Int32} (hd : decode M.2.1 pc = .ok (.newarray .int, 2)) (hz : ¬ z < 0) (hN : z.toNatClampNeg = N) (hb : N * 4 ≤ 536870912) (hk : k + 1 ≤ M.2.2.2.2.cells) (hn : n + N ≤ M.2.2.2.2.slots)
    (kk : ∀ a : Nat, pG M τ Q (k + 1) (n + N) (pc + 2) ls (.ref a :: rest) (w ++ [(a, .inl (N, fun _ => 0))])) : pG M τ Q k n pc ls (.int z :: rest) w := by
  intro p l e s m args below meth c D cI cJ A H L locs C hll hP hD hS
  refine va_newa (atype := .int) (a0 := (N, .inl (fun _ => 0))) C.1 C.2.1 (C.2.2.2.2.1 _ pw_aI) rfl C.2.2.2.2.2.2.2.2.1 hP hD hS C.2.2.2.2.2.2.2.2.2.1 (fun cA => rfl) hz hN hb hk hn hd (fun a cA H1 hK1 hP1 hD1 hS1 => ?_)
  have e1 : cA = cI := by
    have h1 : s.vm.findClass _ = some cA := (hK1.2 2 (cA, .int) rfl).2
    have h2 : s.vm.findClass _ = some cI := (hK1.2 0 (cI, .int) rfl).2
    exact Option.some.inj (h1.symm.trans h2)
  subst e1
  rw [show ([(a, Sum.inl (cA, N, .inl (fun _ => 0)))] : va_W) = p_w cA cJ [(a, .inl (N, fun _ => 0))] from rfl, ← p_app] at hP1 hD1
  exact kk a p l e s m args below meth c D cA cJ A H1 L locs C hll hP1 hD1 hS1
theorem g_newJ {z : Int32} (hd : decode M.2.1 pc = .ok (.newarray .long, 2)) (hz : ¬ z < 0) (hN : z.toNatClampNeg = N) (hb : N * 8 ≤ 536870912) (hk : k + 1 ≤ M.2.2.2.2.cells) (hn : n + N ≤ M.2.2.2.2.slots)
    (kk : ∀ a : Nat, pG M τ Q (k + 1) (n + N) (pc + 2) ls (.ref a :: rest) (w ++ [(a, .inr (.inl (N, fun _ => 0)))])) : pG M τ Q k n pc ls (.int z :: rest) w := by
  intro p l e s m args below meth c D cI cJ A H L locs C hll hP hD hS
  refine va_newa (atype := .long) (a0 := (N, .inr (.inl (fun _ => 0)))) C.1 C.2.1 (C.2.2.2.2.1 _ pw_aJ) rfl C.2.2.2.2.2.2.2.2.1 hP hD hS C.2.2.2.2.2.2.2.2.2.1 (fun cA => rfl) hz hN hb hk hn hd (fun a cA H1 hK1 hP1 hD1 hS1 => ?_)
  have e1 : cA = cJ := by
    have h1 : s.vm.findClass _ = some cA := (hK1.2 2 (cA, .long) rfl).2
    have h2 : s.vm.findClass _ = some cJ := (hK1.2 1 (cJ, .long) rfl).2
    exact Option.some.inj (h1.symm.trans h2)
  subst e1
  rw [show ([(a, Sum.inl (cA, N, .inr (.inl (fun _ => 0))))] : va_W) = p_w cI cA [(a, .inr (.inl (N, fun _ => 0)))] from rfl, ← p_app] at hP1 hD1
  exact kk a p l e s m args below meth c D cI cA A H1 L locs C hll hP1 hD1 hS1
/-- the world's cells in another order -/
theorem g_perm {w2 : pW} (h : w.Perm w2) (kk : pG M τ Q k n pc ls st w2) : pG M τ Q k n pc ls st w := by
  intro p l e s m args below meth c D cI cJ A H L locs C hll hP hD hS
  have hp : (p_w cI cJ w).Perm (p_w cI cJ w2) := h.map _
  refine kk p l e s m args below meth c D cI cJ A H L locs C hll ?_ ?_ hS
  · intro j q hj
    obtain ⟨i, hi⟩ := List.mem_iff_getElem?.mp (hp.symm.subset (List.mem_of_getElem? hj))
    exact hP i q hi
  · refine ⟨?_, fun j q hj => ?_⟩
    · have nd : (p_w cI cJ w).Pairwise (fun x y => x.1 ≠ y.1) := by
        rw [List.pairwise_iff_getElem]
        intro i j hi hj hij e
        have := hD.1 i j _ _ (List.getElem?_eq_getElem hi) (List.getElem?_eq_getElem hj) e
        omega
      have nd2 : (p_w cI cJ w2).Pairwise (fun x y => x.1 ≠ y.1) := (hp.pairwise_iff (fun h e => h e.symm)).mp nd
      rw [List.pairwise_iff_getElem] at nd2
      intro i j x y hi hj e
      obtain ⟨hi', rfl⟩ := List.getElem?_eq_some_iff.mp hi
      obtain ⟨hj', rfl⟩ := List.getElem?_eq_some_iff.mp hj
      rcases Nat.lt_trichotomy i j with h | h | h
      · exact absurd e (nd2 i j hi' hj' h)
      · exact h
      · exact absurd e.symm (nd2 j i hj' hi' h)
    · obtain ⟨i, hi⟩ := List.mem_iff_getElem?.mp (hp.symm.subset (List.mem_of_getElem? hj))
      exact hD.2 i q hi
end pCalls
end
section
/-! The pictures of the class (wX) and of the reference (wM), reads and writes in them. Written by wip/whole/gen_world.py. -/
def wX (a : Nat → Nat) (i : Nat → Int32) (r : Nat → Nat → Int32) (L : Nat → Int64) : pW := [(a 0, .inr (.inr (0, [.ref (a 1), .ref (a 2), .ref (a 3), .ref (a 4)]))), (a 1, .inr (.inr (1, [.ref (a 5), .ref (a 6), .int (i 0)]))), (a 2, .inr (.inr (2, [.ref (a 7), .ref (a 8), .int (i 1)]))), (a 3, .inr (.inr (3, [.ref (a 2), .ref (a 9), .int (i 2), .ref (a 10), .int (i 3)]))), (a 4, .inr (.inr (4, [.ref (a 11), .ref (a 12), .ref (a 13), .ref (a 14), .ref (a 15), .int (i 4), .ref (a 16)]))), (a 5, .inl (16, r 0)), (a 6, .inl (16, r 1)), (a 7, .inl (1800, r 2)), (a 8, .inl (60, r 3)), (a 9, .inl (30, r 4)), (a 10, .inl (30, r 5)), (a 11, .inr (.inl (40, L))), (a 12, .inl (40, r 6)), (a 13, .inl (40, r 7)), (a 14, .inl (40, r 8)), (a 15, .inl (40, r 9)), (a 16, .inl (40, r 10))]
def wM (a : Nat → Nat) (i : Nat → Int32) (r : Nat → Nat → Int32) (L : Nat → Nat → Int64) (z : Int64) : pW := [(a 0, .inr (.inr (5, [.ref (a 1), .int (i 0), .int (i 1), .ref (a 2), .ref (a 3), .ref (a 4), .int (i 2), .ref (a 5), .ref (a 6), .ref (a 7), .int (i 3), .ref (a 8), .ref (a 9), .ref (a 10), .ref (a 11), .long z, .ref (a 12), .int (i 4)]))), (a 1, .inl (3020, r 0)), (a 2, .inl (60, r 1)), (a 3, .inl (60, r 2)), (a 4, .inl (32, r 3)), (a 5, .inl (16, r 4)), (a 6, .inl (16, r 5)), (a 7, .inl (4, r 6)), (a 8, .inr (.inl (40, L 0))), (a 9, .inl (40, r 7)), (a 10, .inr (.inl (40, L 1))), (a 11, .inl (40, r 8)), (a 12, .inl (64, r 9))]
section wRules
variable {M : pMD} {τ : Nat × Nat} {Q : Option Value → pW → Prop} {k n pc ix : Nat} {ls : List (Nat × Value)} {rest : List Value} {a : Nat → Nat} {i : Nat → Int32} {r : Nat → Nat → Int32} {wr : pW}
theorem gx_K_types {L : Nat → Int64} (hd : decode M.2.1 pc = .ok (.getfield ix, 3)) (hw : Cond.fieldLink M.1.cls ix "ProofKernel" "types" "LProofKernel$Types;" ∈ pTB) (kk : pG M τ Q k n (pc + 3) ls (.ref (a 1) :: rest) (wX a i r L ++ wr)) : pG M τ Q k n pc ls (.ref (a 0) :: rest) (wX a i r L ++ wr) := g_get (q := 0) (ci := 0) (j := 0) (T := F_K) (N := 4) hd rfl rfl in_K (by decide) hw rfl rfl kk
theorem gx_K_shelf {L : Nat → Int64} (hd : decode M.2.1 pc = .ok (.getfield ix, 3)) (hw : Cond.fieldLink M.1.cls ix "ProofKernel" "shelf" "LProofKernel$Shelf;" ∈ pTB) (kk : pG M τ Q k n (pc + 3) ls (.ref (a 2) :: rest) (wX a i r L ++ wr)) : pG M τ Q k n pc ls (.ref (a 0) :: rest) (wX a i r L ++ wr) := g_get (q := 0) (ci := 0) (j := 1) (T := F_K) (N := 4) hd rfl rfl in_K (by decide) hw rfl rfl kk
theorem gx_K_draft {L : Nat → Int64} (hd : decode M.2.1 pc = .ok (.getfield ix, 3)) (hw : Cond.fieldLink M.1.cls ix "ProofKernel" "draft" "LProofKernel$Draft;" ∈ pTB) (kk : pG M τ Q k n (pc + 3) ls (.ref (a 3) :: rest) (wX a i r L ++ wr)) : pG M τ Q k n pc ls (.ref (a 0) :: rest) (wX a i r L ++ wr) := g_get (q := 0) (ci := 0) (j := 2) (T := F_K) (N := 4) hd rfl rfl in_K (by decide) hw rfl rfl kk
theorem gx_K_book {L : Nat → Int64} (hd : decode M.2.1 pc = .ok (.getfield ix, 3)) (hw : Cond.fieldLink M.1.cls ix "ProofKernel" "book" "LProofKernel$Book;" ∈ pTB) (kk : pG M τ Q k n (pc + 3) ls (.ref (a 4) :: rest) (wX a i r L ++ wr)) : pG M τ Q k n pc ls (.ref (a 0) :: rest) (wX a i r L ++ wr) := g_get (q := 0) (ci := 0) (j := 3) (T := F_K) (N := 4) hd rfl rfl in_K (by decide) hw rfl rfl kk
theorem gx_T_from {L : Nat → Int64} (hd : decode M.2.1 pc = .ok (.getfield ix, 3)) (hw : Cond.fieldLink M.1.cls ix "ProofKernel$Types" "from" "[I" ∈ pTB) (kk : pG M τ Q k n (pc + 3) ls (.ref (a 5) :: rest) (wX a i r L ++ wr)) : pG M τ Q k n pc ls (.ref (a 1) :: rest) (wX a i r L ++ wr) := g_get (q := 1) (ci := 1) (j := 0) (T := F_T) (N := 3) hd rfl rfl in_T (by decide) hw rfl rfl kk
theorem glx_T_from {L : Nat → Int64} {j v : Int32} (hd : decode M.2.1 pc = .ok (.iaload, 1)) (hj : vp_in j 16) (hv : r 0 j.toNatClampNeg = v) (kk : pG M τ Q k n (pc + 1) ls (.int v :: rest) (wX a i r L ++ wr)) : pG M τ Q k n pc ls (.int j :: .ref (a 5) :: rest) (wX a i r L ++ wr) := g_iald (q := 5) hd rfl hj hv kk
theorem gsx_T_from {L : Nat → Int64} {j v : Int32} (hd : decode M.2.1 pc = .ok (.iastore, 1)) (hj : vp_in j 16) (kk : pG M τ Q k n (pc + 1) ls rest (wX a i (va_up r 0 (upd (r 0) j.toNatClampNeg v)) L ++ wr)) : pG M τ Q k n pc ls (.int v :: .int j :: .ref (a 5) :: rest) (wX a i r L ++ wr) := g_iast (q := 5) (wX a i (va_up r 0 (upd (r 0) j.toNatClampNeg v)) L ++ wr) hd rfl hj rfl kk
theorem gx_T_to {L : Nat → Int64} (hd : decode M.2.1 pc = .ok (.getfield ix, 3)) (hw : Cond.fieldLink M.1.cls ix "ProofKernel$Types" "to" "[I" ∈ pTB) (kk : pG M τ Q k n (pc + 3) ls (.ref (a 6) :: rest) (wX a i r L ++ wr)) : pG M τ Q k n pc ls (.ref (a 1) :: rest) (wX a i r L ++ wr) := g_get (q := 1) (ci := 1) (j := 1) (T := F_T) (N := 3) hd rfl rfl in_T (by decide) hw rfl rfl kk
theorem glx_T_to {L : Nat → Int64} {j v : Int32} (hd : decode M.2.1 pc = .ok (.iaload, 1)) (hj : vp_in j 16) (hv : r 1 j.toNatClampNeg = v) (kk : pG M τ Q k n (pc + 1) ls (.int v :: rest) (wX a i r L ++ wr)) : pG M τ Q k n pc ls (.int j :: .ref (a 6) :: rest) (wX a i r L ++ wr) := g_iald (q := 6) hd rfl hj hv kk
theorem gsx_T_to {L : Nat → Int64} {j v : Int32} (hd : decode M.2.1 pc = .ok (.iastore, 1)) (hj : vp_in j 16) (kk : pG M τ Q k n (pc + 1) ls rest (wX a i (va_up r 1 (upd (r 1) j.toNatClampNeg v)) L ++ wr)) : pG M τ Q k n pc ls (.int v :: .int j :: .ref (a 6) :: rest) (wX a i r L ++ wr) := g_iast (q := 6) (wX a i (va_up r 1 (upd (r 1) j.toNatClampNeg v)) L ++ wr) hd rfl hj rfl kk
theorem gx_T_count {L : Nat → Int64} (hd : decode M.2.1 pc = .ok (.getfield ix, 3)) (hw : Cond.fieldLink M.1.cls ix "ProofKernel$Types" "count" "I" ∈ pTB) (kk : pG M τ Q k n (pc + 3) ls (.int (i 0) :: rest) (wX a i r L ++ wr)) : pG M τ Q k n pc ls (.ref (a 1) :: rest) (wX a i r L ++ wr) := g_get (q := 1) (ci := 1) (j := 2) (T := F_T) (N := 3) hd rfl rfl in_T (by decide) hw rfl rfl kk
theorem gx_T_count_p {L : Nat → Int64} {v : Int32} (hd : decode M.2.1 pc = .ok (.putfield ix, 3)) (hw : Cond.fieldLink M.1.cls ix "ProofKernel$Types" "count" "I" ∈ pTB) (kk : pG M τ Q k n (pc + 3) ls rest (wX a (upd i 0 v) r L ++ wr)) : pG M τ Q k n pc ls (.int v :: .ref (a 1) :: rest) (wX a i r L ++ wr) := g_put (q := 1) (ci := 1) (j := 2) (T := F_T) (N := 3) (ty := .int) (wX a (upd i 0 v) r L ++ wr) hd rfl rfl in_T ft_T_ok n_T (by decide) hw rfl rfl (by decide +kernel) rfl rfl (Nat.le_of_ble_eq_true rfl) rfl kk
theorem gx_S_tokens {L : Nat → Int64} (hd : decode M.2.1 pc = .ok (.getfield ix, 3)) (hw : Cond.fieldLink M.1.cls ix "ProofKernel$Shelf" "tokens" "[I" ∈ pTB) (kk : pG M τ Q k n (pc + 3) ls (.ref (a 7) :: rest) (wX a i r L ++ wr)) : pG M τ Q k n pc ls (.ref (a 2) :: rest) (wX a i r L ++ wr) := g_get (q := 2) (ci := 2) (j := 0) (T := F_S) (N := 3) hd rfl rfl in_S (by decide) hw rfl rfl kk
theorem glx_S_tokens {L : Nat → Int64} {j v : Int32} (hd : decode M.2.1 pc = .ok (.iaload, 1)) (hj : vp_in j 1800) (hv : r 2 j.toNatClampNeg = v) (kk : pG M τ Q k n (pc + 1) ls (.int v :: rest) (wX a i r L ++ wr)) : pG M τ Q k n pc ls (.int j :: .ref (a 7) :: rest) (wX a i r L ++ wr) := g_iald (q := 7) hd rfl hj hv kk
theorem gsx_S_tokens {L : Nat → Int64} {j v : Int32} (hd : decode M.2.1 pc = .ok (.iastore, 1)) (hj : vp_in j 1800) (kk : pG M τ Q k n (pc + 1) ls rest (wX a i (va_up r 2 (upd (r 2) j.toNatClampNeg v)) L ++ wr)) : pG M τ Q k n pc ls (.int v :: .int j :: .ref (a 7) :: rest) (wX a i r L ++ wr) := g_iast (q := 7) (wX a i (va_up r 2 (upd (r 2) j.toNatClampNeg v)) L ++ wr) hd rfl hj rfl kk
theorem gnx_S_tokens {L : Nat → Int64} (hd : decode M.2.1 pc = .ok (.arraylength, 1)) (kk : pG M τ Q k n (pc + 1) ls (.int (nI 1800) :: rest) (wX a i r L ++ wr)) : pG M τ Q k n pc ls (.ref (a 7) :: rest) (wX a i r L ++ wr) := g_alen (q := 7) hd rfl rfl kk
theorem gx_S_lengths {L : Nat → Int64} (hd : decode M.2.1 pc = .ok (.getfield ix, 3)) (hw : Cond.fieldLink M.1.cls ix "ProofKernel$Shelf" "lengths" "[I" ∈ pTB) (kk : pG M τ Q k n (pc + 3) ls (.ref (a 8) :: rest) (wX a i r L ++ wr)) : pG M τ Q k n pc ls (.ref (a 2) :: rest) (wX a i r L ++ wr) := g_get (q := 2) (ci := 2) (j := 1) (T := F_S) (N := 3) hd rfl rfl in_S (by decide) hw rfl rfl kk
theorem glx_S_lengths {L : Nat → Int64} {j v : Int32} (hd : decode M.2.1 pc = .ok (.iaload, 1)) (hj : vp_in j 60) (hv : r 3 j.toNatClampNeg = v) (kk : pG M τ Q k n (pc + 1) ls (.int v :: rest) (wX a i r L ++ wr)) : pG M τ Q k n pc ls (.int j :: .ref (a 8) :: rest) (wX a i r L ++ wr) := g_iald (q := 8) hd rfl hj hv kk
theorem gsx_S_lengths {L : Nat → Int64} {j v : Int32} (hd : decode M.2.1 pc = .ok (.iastore, 1)) (hj : vp_in j 60) (kk : pG M τ Q k n (pc + 1) ls rest (wX a i (va_up r 3 (upd (r 3) j.toNatClampNeg v)) L ++ wr)) : pG M τ Q k n pc ls (.int v :: .int j :: .ref (a 8) :: rest) (wX a i r L ++ wr) := g_iast (q := 8) (wX a i (va_up r 3 (upd (r 3) j.toNatClampNeg v)) L ++ wr) hd rfl hj rfl kk
theorem gx_S_count {L : Nat → Int64} (hd : decode M.2.1 pc = .ok (.getfield ix, 3)) (hw : Cond.fieldLink M.1.cls ix "ProofKernel$Shelf" "count" "I" ∈ pTB) (kk : pG M τ Q k n (pc + 3) ls (.int (i 1) :: rest) (wX a i r L ++ wr)) : pG M τ Q k n pc ls (.ref (a 2) :: rest) (wX a i r L ++ wr) := g_get (q := 2) (ci := 2) (j := 2) (T := F_S) (N := 3) hd rfl rfl in_S (by decide) hw rfl rfl kk
theorem gx_S_count_p {L : Nat → Int64} {v : Int32} (hd : decode M.2.1 pc = .ok (.putfield ix, 3)) (hw : Cond.fieldLink M.1.cls ix "ProofKernel$Shelf" "count" "I" ∈ pTB) (kk : pG M τ Q k n (pc + 3) ls rest (wX a (upd i 1 v) r L ++ wr)) : pG M τ Q k n pc ls (.int v :: .ref (a 2) :: rest) (wX a i r L ++ wr) := g_put (q := 2) (ci := 2) (j := 2) (T := F_S) (N := 3) (ty := .int) (wX a (upd i 1 v) r L ++ wr) hd rfl rfl in_S ft_S_ok n_S (by decide) hw rfl rfl (by decide +kernel) rfl rfl (Nat.le_of_ble_eq_true rfl) rfl kk
theorem gx_D_shelf {L : Nat → Int64} (hd : decode M.2.1 pc = .ok (.getfield ix, 3)) (hw : Cond.fieldLink M.1.cls ix "ProofKernel$Draft" "shelf" "LProofKernel$Shelf;" ∈ pTB) (kk : pG M τ Q k n (pc + 3) ls (.ref (a 2) :: rest) (wX a i r L ++ wr)) : pG M τ Q k n pc ls (.ref (a 3) :: rest) (wX a i r L ++ wr) := g_get (q := 3) (ci := 3) (j := 0) (T := F_D) (N := 5) hd rfl rfl in_D (by decide) hw rfl rfl kk
theorem gx_D_row {L : Nat → Int64} (hd : decode M.2.1 pc = .ok (.getfield ix, 3)) (hw : Cond.fieldLink M.1.cls ix "ProofKernel$Draft" "row" "[I" ∈ pTB) (kk : pG M τ Q k n (pc + 3) ls (.ref (a 9) :: rest) (wX a i r L ++ wr)) : pG M τ Q k n pc ls (.ref (a 3) :: rest) (wX a i r L ++ wr) := g_get (q := 3) (ci := 3) (j := 1) (T := F_D) (N := 5) hd rfl rfl in_D (by decide) hw rfl rfl kk
theorem glx_D_row {L : Nat → Int64} {j v : Int32} (hd : decode M.2.1 pc = .ok (.iaload, 1)) (hj : vp_in j 30) (hv : r 4 j.toNatClampNeg = v) (kk : pG M τ Q k n (pc + 1) ls (.int v :: rest) (wX a i r L ++ wr)) : pG M τ Q k n pc ls (.int j :: .ref (a 9) :: rest) (wX a i r L ++ wr) := g_iald (q := 9) hd rfl hj hv kk
theorem gsx_D_row {L : Nat → Int64} {j v : Int32} (hd : decode M.2.1 pc = .ok (.iastore, 1)) (hj : vp_in j 30) (kk : pG M τ Q k n (pc + 1) ls rest (wX a i (va_up r 4 (upd (r 4) j.toNatClampNeg v)) L ++ wr)) : pG M τ Q k n pc ls (.int v :: .int j :: .ref (a 9) :: rest) (wX a i r L ++ wr) := g_iast (q := 9) (wX a i (va_up r 4 (upd (r 4) j.toNatClampNeg v)) L ++ wr) hd rfl hj rfl kk
theorem gx_D_length {L : Nat → Int64} (hd : decode M.2.1 pc = .ok (.getfield ix, 3)) (hw : Cond.fieldLink M.1.cls ix "ProofKernel$Draft" "length" "I" ∈ pTB) (kk : pG M τ Q k n (pc + 3) ls (.int (i 2) :: rest) (wX a i r L ++ wr)) : pG M τ Q k n pc ls (.ref (a 3) :: rest) (wX a i r L ++ wr) := g_get (q := 3) (ci := 3) (j := 2) (T := F_D) (N := 5) hd rfl rfl in_D (by decide) hw rfl rfl kk
theorem gx_D_length_p {L : Nat → Int64} {v : Int32} (hd : decode M.2.1 pc = .ok (.putfield ix, 3)) (hw : Cond.fieldLink M.1.cls ix "ProofKernel$Draft" "length" "I" ∈ pTB) (kk : pG M τ Q k n (pc + 3) ls rest (wX a (upd i 2 v) r L ++ wr)) : pG M τ Q k n pc ls (.int v :: .ref (a 3) :: rest) (wX a i r L ++ wr) := g_put (q := 3) (ci := 3) (j := 2) (T := F_D) (N := 5) (ty := .int) (wX a (upd i 2 v) r L ++ wr) hd rfl rfl in_D ft_D_ok n_D (by decide) hw rfl rfl (by decide +kernel) rfl rfl (Nat.le_of_ble_eq_true rfl) rfl kk
theorem gx_D_depths {L : Nat → Int64} (hd : decode M.2.1 pc = .ok (.getfield ix, 3)) (hw : Cond.fieldLink M.1.cls ix "ProofKernel$Draft" "depths" "[I" ∈ pTB) (kk : pG M τ Q k n (pc + 3) ls (.ref (a 10) :: rest) (wX a i r L ++ wr)) : pG M τ Q k n pc ls (.ref (a 3) :: rest) (wX a i r L ++ wr) := g_get (q := 3) (ci := 3) (j := 3) (T := F_D) (N := 5) hd rfl rfl in_D (by decide) hw rfl rfl kk
theorem glx_D_depths {L : Nat → Int64} {j v : Int32} (hd : decode M.2.1 pc = .ok (.iaload, 1)) (hj : vp_in j 30) (hv : r 5 j.toNatClampNeg = v) (kk : pG M τ Q k n (pc + 1) ls (.int v :: rest) (wX a i r L ++ wr)) : pG M τ Q k n pc ls (.int j :: .ref (a 10) :: rest) (wX a i r L ++ wr) := g_iald (q := 10) hd rfl hj hv kk
theorem gsx_D_depths {L : Nat → Int64} {j v : Int32} (hd : decode M.2.1 pc = .ok (.iastore, 1)) (hj : vp_in j 30) (kk : pG M τ Q k n (pc + 1) ls rest (wX a i (va_up r 5 (upd (r 5) j.toNatClampNeg v)) L ++ wr)) : pG M τ Q k n pc ls (.int v :: .int j :: .ref (a 10) :: rest) (wX a i r L ++ wr) := g_iast (q := 10) (wX a i (va_up r 5 (upd (r 5) j.toNatClampNeg v)) L ++ wr) hd rfl hj rfl kk
theorem gx_D_waiting {L : Nat → Int64} (hd : decode M.2.1 pc = .ok (.getfield ix, 3)) (hw : Cond.fieldLink M.1.cls ix "ProofKernel$Draft" "waiting" "I" ∈ pTB) (kk : pG M τ Q k n (pc + 3) ls (.int (i 3) :: rest) (wX a i r L ++ wr)) : pG M τ Q k n pc ls (.ref (a 3) :: rest) (wX a i r L ++ wr) := g_get (q := 3) (ci := 3) (j := 4) (T := F_D) (N := 5) hd rfl rfl in_D (by decide) hw rfl rfl kk
theorem gx_D_waiting_p {L : Nat → Int64} {v : Int32} (hd : decode M.2.1 pc = .ok (.putfield ix, 3)) (hw : Cond.fieldLink M.1.cls ix "ProofKernel$Draft" "waiting" "I" ∈ pTB) (kk : pG M τ Q k n (pc + 3) ls rest (wX a (upd i 3 v) r L ++ wr)) : pG M τ Q k n pc ls (.int v :: .ref (a 3) :: rest) (wX a i r L ++ wr) := g_put (q := 3) (ci := 3) (j := 4) (T := F_D) (N := 5) (ty := .int) (wX a (upd i 3 v) r L ++ wr) hd rfl rfl in_D ft_D_ok n_D (by decide) hw rfl rfl (by decide +kernel) rfl rfl (Nat.le_of_ble_eq_true rfl) rfl kk
theorem gx_B_assumed {L : Nat → Int64} (hd : decode M.2.1 pc = .ok (.getfield ix, 3)) (hw : Cond.fieldLink M.1.cls ix "ProofKernel$Book" "assumed" "[J" ∈ pTB) (kk : pG M τ Q k n (pc + 3) ls (.ref (a 11) :: rest) (wX a i r L ++ wr)) : pG M τ Q k n pc ls (.ref (a 4) :: rest) (wX a i r L ++ wr) := g_get (q := 4) (ci := 4) (j := 0) (T := F_B) (N := 7) hd rfl rfl in_B (by decide) hw rfl rfl kk
theorem glx_B_assumed {L : Nat → Int64} {j : Int32} {v : Int64} (hd : decode M.2.1 pc = .ok (.laload, 1)) (hj : vp_in j 40) (hv : L j.toNatClampNeg = v) (kk : pG M τ Q k n (pc + 1) ls (.long v :: rest) (wX a i r L ++ wr)) : pG M τ Q k n pc ls (.int j :: .ref (a 11) :: rest) (wX a i r L ++ wr) := g_lald (q := 11) hd rfl hj hv kk
theorem gsx_B_assumed {L : Nat → Int64} {j : Int32} {v : Int64} (hd : decode M.2.1 pc = .ok (.lastore, 1)) (hj : vp_in j 40) (kk : pG M τ Q k n (pc + 1) ls rest (wX a i r (vp_updL L j.toNatClampNeg v) ++ wr)) : pG M τ Q k n pc ls (.long v :: .int j :: .ref (a 11) :: rest) (wX a i r L ++ wr) := g_last (q := 11) (wX a i r (vp_updL L j.toNatClampNeg v) ++ wr) hd rfl hj rfl kk
theorem gx_B_conclusions {L : Nat → Int64} (hd : decode M.2.1 pc = .ok (.getfield ix, 3)) (hw : Cond.fieldLink M.1.cls ix "ProofKernel$Book" "conclusions" "[I" ∈ pTB) (kk : pG M τ Q k n (pc + 3) ls (.ref (a 12) :: rest) (wX a i r L ++ wr)) : pG M τ Q k n pc ls (.ref (a 4) :: rest) (wX a i r L ++ wr) := g_get (q := 4) (ci := 4) (j := 1) (T := F_B) (N := 7) hd rfl rfl in_B (by decide) hw rfl rfl kk
theorem glx_B_conclusions {L : Nat → Int64} {j v : Int32} (hd : decode M.2.1 pc = .ok (.iaload, 1)) (hj : vp_in j 40) (hv : r 6 j.toNatClampNeg = v) (kk : pG M τ Q k n (pc + 1) ls (.int v :: rest) (wX a i r L ++ wr)) : pG M τ Q k n pc ls (.int j :: .ref (a 12) :: rest) (wX a i r L ++ wr) := g_iald (q := 12) hd rfl hj hv kk
theorem gsx_B_conclusions {L : Nat → Int64} {j v : Int32} (hd : decode M.2.1 pc = .ok (.iastore, 1)) (hj : vp_in j 40) (kk : pG M τ Q k n (pc + 1) ls rest (wX a i (va_up r 6 (upd (r 6) j.toNatClampNeg v)) L ++ wr)) : pG M τ Q k n pc ls (.int v :: .int j :: .ref (a 12) :: rest) (wX a i r L ++ wr) := g_iast (q := 12) (wX a i (va_up r 6 (upd (r 6) j.toNatClampNeg v)) L ++ wr) hd rfl hj rfl kk
theorem gx_B_rules {L : Nat → Int64} (hd : decode M.2.1 pc = .ok (.getfield ix, 3)) (hw : Cond.fieldLink M.1.cls ix "ProofKernel$Book" "rules" "[I" ∈ pTB) (kk : pG M τ Q k n (pc + 3) ls (.ref (a 13) :: rest) (wX a i r L ++ wr)) : pG M τ Q k n pc ls (.ref (a 4) :: rest) (wX a i r L ++ wr) := g_get (q := 4) (ci := 4) (j := 2) (T := F_B) (N := 7) hd rfl rfl in_B (by decide) hw rfl rfl kk
theorem glx_B_rules {L : Nat → Int64} {j v : Int32} (hd : decode M.2.1 pc = .ok (.iaload, 1)) (hj : vp_in j 40) (hv : r 7 j.toNatClampNeg = v) (kk : pG M τ Q k n (pc + 1) ls (.int v :: rest) (wX a i r L ++ wr)) : pG M τ Q k n pc ls (.int j :: .ref (a 13) :: rest) (wX a i r L ++ wr) := g_iald (q := 13) hd rfl hj hv kk
theorem gsx_B_rules {L : Nat → Int64} {j v : Int32} (hd : decode M.2.1 pc = .ok (.iastore, 1)) (hj : vp_in j 40) (kk : pG M τ Q k n (pc + 1) ls rest (wX a i (va_up r 7 (upd (r 7) j.toNatClampNeg v)) L ++ wr)) : pG M τ Q k n pc ls (.int v :: .int j :: .ref (a 13) :: rest) (wX a i r L ++ wr) := g_iast (q := 13) (wX a i (va_up r 7 (upd (r 7) j.toNatClampNeg v)) L ++ wr) hd rfl hj rfl kk
theorem gx_B_namedByX {L : Nat → Int64} (hd : decode M.2.1 pc = .ok (.getfield ix, 3)) (hw : Cond.fieldLink M.1.cls ix "ProofKernel$Book" "namedByX" "[I" ∈ pTB) (kk : pG M τ Q k n (pc + 3) ls (.ref (a 14) :: rest) (wX a i r L ++ wr)) : pG M τ Q k n pc ls (.ref (a 4) :: rest) (wX a i r L ++ wr) := g_get (q := 4) (ci := 4) (j := 3) (T := F_B) (N := 7) hd rfl rfl in_B (by decide) hw rfl rfl kk
theorem glx_B_namedByX {L : Nat → Int64} {j v : Int32} (hd : decode M.2.1 pc = .ok (.iaload, 1)) (hj : vp_in j 40) (hv : r 8 j.toNatClampNeg = v) (kk : pG M τ Q k n (pc + 1) ls (.int v :: rest) (wX a i r L ++ wr)) : pG M τ Q k n pc ls (.int j :: .ref (a 14) :: rest) (wX a i r L ++ wr) := g_iald (q := 14) hd rfl hj hv kk
theorem gsx_B_namedByX {L : Nat → Int64} {j v : Int32} (hd : decode M.2.1 pc = .ok (.iastore, 1)) (hj : vp_in j 40) (kk : pG M τ Q k n (pc + 1) ls rest (wX a i (va_up r 8 (upd (r 8) j.toNatClampNeg v)) L ++ wr)) : pG M τ Q k n pc ls (.int v :: .int j :: .ref (a 14) :: rest) (wX a i r L ++ wr) := g_iast (q := 14) (wX a i (va_up r 8 (upd (r 8) j.toNatClampNeg v)) L ++ wr) hd rfl hj rfl kk
theorem gx_B_namedByY {L : Nat → Int64} (hd : decode M.2.1 pc = .ok (.getfield ix, 3)) (hw : Cond.fieldLink M.1.cls ix "ProofKernel$Book" "namedByY" "[I" ∈ pTB) (kk : pG M τ Q k n (pc + 3) ls (.ref (a 15) :: rest) (wX a i r L ++ wr)) : pG M τ Q k n pc ls (.ref (a 4) :: rest) (wX a i r L ++ wr) := g_get (q := 4) (ci := 4) (j := 4) (T := F_B) (N := 7) hd rfl rfl in_B (by decide) hw rfl rfl kk
theorem glx_B_namedByY {L : Nat → Int64} {j v : Int32} (hd : decode M.2.1 pc = .ok (.iaload, 1)) (hj : vp_in j 40) (hv : r 9 j.toNatClampNeg = v) (kk : pG M τ Q k n (pc + 1) ls (.int v :: rest) (wX a i r L ++ wr)) : pG M τ Q k n pc ls (.int j :: .ref (a 15) :: rest) (wX a i r L ++ wr) := g_iald (q := 15) hd rfl hj hv kk
theorem gsx_B_namedByY {L : Nat → Int64} {j v : Int32} (hd : decode M.2.1 pc = .ok (.iastore, 1)) (hj : vp_in j 40) (kk : pG M τ Q k n (pc + 1) ls rest (wX a i (va_up r 9 (upd (r 9) j.toNatClampNeg v)) L ++ wr)) : pG M τ Q k n pc ls (.int v :: .int j :: .ref (a 15) :: rest) (wX a i r L ++ wr) := g_iast (q := 15) (wX a i (va_up r 9 (upd (r 9) j.toNatClampNeg v)) L ++ wr) hd rfl hj rfl kk
theorem gx_B_count {L : Nat → Int64} (hd : decode M.2.1 pc = .ok (.getfield ix, 3)) (hw : Cond.fieldLink M.1.cls ix "ProofKernel$Book" "count" "I" ∈ pTB) (kk : pG M τ Q k n (pc + 3) ls (.int (i 4) :: rest) (wX a i r L ++ wr)) : pG M τ Q k n pc ls (.ref (a 4) :: rest) (wX a i r L ++ wr) := g_get (q := 4) (ci := 4) (j := 5) (T := F_B) (N := 7) hd rfl rfl in_B (by decide) hw rfl rfl kk
theorem gx_B_count_p {L : Nat → Int64} {v : Int32} (hd : decode M.2.1 pc = .ok (.putfield ix, 3)) (hw : Cond.fieldLink M.1.cls ix "ProofKernel$Book" "count" "I" ∈ pTB) (kk : pG M τ Q k n (pc + 3) ls rest (wX a (upd i 4 v) r L ++ wr)) : pG M τ Q k n pc ls (.int v :: .ref (a 4) :: rest) (wX a i r L ++ wr) := g_put (q := 4) (ci := 4) (j := 5) (T := F_B) (N := 7) (ty := .int) (wX a (upd i 4 v) r L ++ wr) hd rfl rfl in_B ft_B_ok n_B (by decide) hw rfl rfl (by decide +kernel) rfl rfl (Nat.le_of_ble_eq_true rfl) rfl kk
theorem gx_B_stepsUpTo {L : Nat → Int64} (hd : decode M.2.1 pc = .ok (.getfield ix, 3)) (hw : Cond.fieldLink M.1.cls ix "ProofKernel$Book" "stepsUpTo" "[I" ∈ pTB) (kk : pG M τ Q k n (pc + 3) ls (.ref (a 16) :: rest) (wX a i r L ++ wr)) : pG M τ Q k n pc ls (.ref (a 4) :: rest) (wX a i r L ++ wr) := g_get (q := 4) (ci := 4) (j := 6) (T := F_B) (N := 7) hd rfl rfl in_B (by decide) hw rfl rfl kk
theorem glx_B_stepsUpTo {L : Nat → Int64} {j v : Int32} (hd : decode M.2.1 pc = .ok (.iaload, 1)) (hj : vp_in j 40) (hv : r 10 j.toNatClampNeg = v) (kk : pG M τ Q k n (pc + 1) ls (.int v :: rest) (wX a i r L ++ wr)) : pG M τ Q k n pc ls (.int j :: .ref (a 16) :: rest) (wX a i r L ++ wr) := g_iald (q := 16) hd rfl hj hv kk
theorem gsx_B_stepsUpTo {L : Nat → Int64} {j v : Int32} (hd : decode M.2.1 pc = .ok (.iastore, 1)) (hj : vp_in j 40) (kk : pG M τ Q k n (pc + 1) ls rest (wX a i (va_up r 10 (upd (r 10) j.toNatClampNeg v)) L ++ wr)) : pG M τ Q k n pc ls (.int v :: .int j :: .ref (a 16) :: rest) (wX a i r L ++ wr) := g_iast (q := 16) (wX a i (va_up r 10 (upd (r 10) j.toNatClampNeg v)) L ++ wr) hd rfl hj rfl kk
theorem gm_row {L : Nat → Nat → Int64} {z : Int64} (hd : decode M.2.1 pc = .ok (.getfield ix, 3)) (hw : Cond.fieldLink M.1.cls ix "ProofKernelModel" "row" "[I" ∈ pTB) (kk : pG M τ Q k n (pc + 3) ls (.ref (a 1) :: rest) (wM a i r L z ++ wr)) : pG M τ Q k n pc ls (.ref (a 0) :: rest) (wM a i r L z ++ wr) := g_get (q := 0) (ci := 5) (j := 0) (T := F_M) (N := 18) hd rfl rfl in_M (by decide) hw rfl rfl kk
theorem glm_row {L : Nat → Nat → Int64} {z : Int64} {j v : Int32} (hd : decode M.2.1 pc = .ok (.iaload, 1)) (hj : vp_in j 3020) (hv : r 0 j.toNatClampNeg = v) (kk : pG M τ Q k n (pc + 1) ls (.int v :: rest) (wM a i r L z ++ wr)) : pG M τ Q k n pc ls (.int j :: .ref (a 1) :: rest) (wM a i r L z ++ wr) := g_iald (q := 1) hd rfl hj hv kk
theorem gsm_row {L : Nat → Nat → Int64} {z : Int64} {j v : Int32} (hd : decode M.2.1 pc = .ok (.iastore, 1)) (hj : vp_in j 3020) (kk : pG M τ Q k n (pc + 1) ls rest (wM a i (va_up r 0 (upd (r 0) j.toNatClampNeg v)) L z ++ wr)) : pG M τ Q k n pc ls (.int v :: .int j :: .ref (a 1) :: rest) (wM a i r L z ++ wr) := g_iast (q := 1) (wM a i (va_up r 0 (upd (r 0) j.toNatClampNeg v)) L z ++ wr) hd rfl hj rfl kk
theorem gm_made {L : Nat → Nat → Int64} {z : Int64} (hd : decode M.2.1 pc = .ok (.getfield ix, 3)) (hw : Cond.fieldLink M.1.cls ix "ProofKernelModel" "made" "I" ∈ pTB) (kk : pG M τ Q k n (pc + 3) ls (.int (i 0) :: rest) (wM a i r L z ++ wr)) : pG M τ Q k n pc ls (.ref (a 0) :: rest) (wM a i r L z ++ wr) := g_get (q := 0) (ci := 5) (j := 1) (T := F_M) (N := 18) hd rfl rfl in_M (by decide) hw rfl rfl kk
theorem gm_made_p {L : Nat → Nat → Int64} {z : Int64} {v : Int32} (hd : decode M.2.1 pc = .ok (.putfield ix, 3)) (hw : Cond.fieldLink M.1.cls ix "ProofKernelModel" "made" "I" ∈ pTB) (kk : pG M τ Q k n (pc + 3) ls rest (wM a (upd i 0 v) r L z ++ wr)) : pG M τ Q k n pc ls (.int v :: .ref (a 0) :: rest) (wM a i r L z ++ wr) := g_put (q := 0) (ci := 5) (j := 1) (T := F_M) (N := 18) (ty := .int) (wM a (upd i 0 v) r L z ++ wr) hd rfl rfl in_M ft_M_ok n_M (by decide) hw rfl rfl (by decide +kernel) rfl rfl (Nat.le_of_ble_eq_true rfl) rfl kk
theorem gm_terms {L : Nat → Nat → Int64} {z : Int64} (hd : decode M.2.1 pc = .ok (.getfield ix, 3)) (hw : Cond.fieldLink M.1.cls ix "ProofKernelModel" "terms" "I" ∈ pTB) (kk : pG M τ Q k n (pc + 3) ls (.int (i 1) :: rest) (wM a i r L z ++ wr)) : pG M τ Q k n pc ls (.ref (a 0) :: rest) (wM a i r L z ++ wr) := g_get (q := 0) (ci := 5) (j := 2) (T := F_M) (N := 18) hd rfl rfl in_M (by decide) hw rfl rfl kk
theorem gm_terms_p {L : Nat → Nat → Int64} {z : Int64} {v : Int32} (hd : decode M.2.1 pc = .ok (.putfield ix, 3)) (hw : Cond.fieldLink M.1.cls ix "ProofKernelModel" "terms" "I" ∈ pTB) (kk : pG M τ Q k n (pc + 3) ls rest (wM a (upd i 1 v) r L z ++ wr)) : pG M τ Q k n pc ls (.int v :: .ref (a 0) :: rest) (wM a i r L z ++ wr) := g_put (q := 0) (ci := 5) (j := 2) (T := F_M) (N := 18) (ty := .int) (wM a (upd i 1 v) r L z ++ wr) hd rfl rfl in_M ft_M_ok n_M (by decide) hw rfl rfl (by decide +kernel) rfl rfl (Nat.le_of_ble_eq_true rfl) rfl kk
theorem gm_length {L : Nat → Nat → Int64} {z : Int64} (hd : decode M.2.1 pc = .ok (.getfield ix, 3)) (hw : Cond.fieldLink M.1.cls ix "ProofKernelModel" "length" "[I" ∈ pTB) (kk : pG M τ Q k n (pc + 3) ls (.ref (a 2) :: rest) (wM a i r L z ++ wr)) : pG M τ Q k n pc ls (.ref (a 0) :: rest) (wM a i r L z ++ wr) := g_get (q := 0) (ci := 5) (j := 3) (T := F_M) (N := 18) hd rfl rfl in_M (by decide) hw rfl rfl kk
theorem glm_length {L : Nat → Nat → Int64} {z : Int64} {j v : Int32} (hd : decode M.2.1 pc = .ok (.iaload, 1)) (hj : vp_in j 60) (hv : r 1 j.toNatClampNeg = v) (kk : pG M τ Q k n (pc + 1) ls (.int v :: rest) (wM a i r L z ++ wr)) : pG M τ Q k n pc ls (.int j :: .ref (a 2) :: rest) (wM a i r L z ++ wr) := g_iald (q := 2) hd rfl hj hv kk
theorem gsm_length {L : Nat → Nat → Int64} {z : Int64} {j v : Int32} (hd : decode M.2.1 pc = .ok (.iastore, 1)) (hj : vp_in j 60) (kk : pG M τ Q k n (pc + 1) ls rest (wM a i (va_up r 1 (upd (r 1) j.toNatClampNeg v)) L z ++ wr)) : pG M τ Q k n pc ls (.int v :: .int j :: .ref (a 2) :: rest) (wM a i r L z ++ wr) := g_iast (q := 2) (wM a i (va_up r 1 (upd (r 1) j.toNatClampNeg v)) L z ++ wr) hd rfl hj rfl kk
theorem gm_sort {L : Nat → Nat → Int64} {z : Int64} (hd : decode M.2.1 pc = .ok (.getfield ix, 3)) (hw : Cond.fieldLink M.1.cls ix "ProofKernelModel" "sort" "[I" ∈ pTB) (kk : pG M τ Q k n (pc + 3) ls (.ref (a 3) :: rest) (wM a i r L z ++ wr)) : pG M τ Q k n pc ls (.ref (a 0) :: rest) (wM a i r L z ++ wr) := g_get (q := 0) (ci := 5) (j := 4) (T := F_M) (N := 18) hd rfl rfl in_M (by decide) hw rfl rfl kk
theorem glm_sort {L : Nat → Nat → Int64} {z : Int64} {j v : Int32} (hd : decode M.2.1 pc = .ok (.iaload, 1)) (hj : vp_in j 60) (hv : r 2 j.toNatClampNeg = v) (kk : pG M τ Q k n (pc + 1) ls (.int v :: rest) (wM a i r L z ++ wr)) : pG M τ Q k n pc ls (.int j :: .ref (a 3) :: rest) (wM a i r L z ++ wr) := g_iald (q := 3) hd rfl hj hv kk
theorem gsm_sort {L : Nat → Nat → Int64} {z : Int64} {j v : Int32} (hd : decode M.2.1 pc = .ok (.iastore, 1)) (hj : vp_in j 60) (kk : pG M τ Q k n (pc + 1) ls rest (wM a i (va_up r 2 (upd (r 2) j.toNatClampNeg v)) L z ++ wr)) : pG M τ Q k n pc ls (.int v :: .int j :: .ref (a 3) :: rest) (wM a i r L z ++ wr) := g_iast (q := 3) (wM a i (va_up r 2 (upd (r 2) j.toNatClampNeg v)) L z ++ wr) hd rfl hj rfl kk
theorem gm_kind {L : Nat → Nat → Int64} {z : Int64} (hd : decode M.2.1 pc = .ok (.getfield ix, 3)) (hw : Cond.fieldLink M.1.cls ix "ProofKernelModel" "kind" "[I" ∈ pTB) (kk : pG M τ Q k n (pc + 3) ls (.ref (a 4) :: rest) (wM a i r L z ++ wr)) : pG M τ Q k n pc ls (.ref (a 0) :: rest) (wM a i r L z ++ wr) := g_get (q := 0) (ci := 5) (j := 5) (T := F_M) (N := 18) hd rfl rfl in_M (by decide) hw rfl rfl kk
theorem glm_kind {L : Nat → Nat → Int64} {z : Int64} {j v : Int32} (hd : decode M.2.1 pc = .ok (.iaload, 1)) (hj : vp_in j 32) (hv : r 3 j.toNatClampNeg = v) (kk : pG M τ Q k n (pc + 1) ls (.int v :: rest) (wM a i r L z ++ wr)) : pG M τ Q k n pc ls (.int j :: .ref (a 4) :: rest) (wM a i r L z ++ wr) := g_iald (q := 4) hd rfl hj hv kk
theorem gsm_kind {L : Nat → Nat → Int64} {z : Int64} {j v : Int32} (hd : decode M.2.1 pc = .ok (.iastore, 1)) (hj : vp_in j 32) (kk : pG M τ Q k n (pc + 1) ls rest (wM a i (va_up r 3 (upd (r 3) j.toNatClampNeg v)) L z ++ wr)) : pG M τ Q k n pc ls (.int v :: .int j :: .ref (a 4) :: rest) (wM a i r L z ++ wr) := g_iast (q := 4) (wM a i (va_up r 3 (upd (r 3) j.toNatClampNeg v)) L z ++ wr) hd rfl hj rfl kk
theorem gm_types {L : Nat → Nat → Int64} {z : Int64} (hd : decode M.2.1 pc = .ok (.getfield ix, 3)) (hw : Cond.fieldLink M.1.cls ix "ProofKernelModel" "types" "I" ∈ pTB) (kk : pG M τ Q k n (pc + 3) ls (.int (i 2) :: rest) (wM a i r L z ++ wr)) : pG M τ Q k n pc ls (.ref (a 0) :: rest) (wM a i r L z ++ wr) := g_get (q := 0) (ci := 5) (j := 6) (T := F_M) (N := 18) hd rfl rfl in_M (by decide) hw rfl rfl kk
theorem gm_types_p {L : Nat → Nat → Int64} {z : Int64} {v : Int32} (hd : decode M.2.1 pc = .ok (.putfield ix, 3)) (hw : Cond.fieldLink M.1.cls ix "ProofKernelModel" "types" "I" ∈ pTB) (kk : pG M τ Q k n (pc + 3) ls rest (wM a (upd i 2 v) r L z ++ wr)) : pG M τ Q k n pc ls (.int v :: .ref (a 0) :: rest) (wM a i r L z ++ wr) := g_put (q := 0) (ci := 5) (j := 6) (T := F_M) (N := 18) (ty := .int) (wM a (upd i 2 v) r L z ++ wr) hd rfl rfl in_M ft_M_ok n_M (by decide) hw rfl rfl (by decide +kernel) rfl rfl (Nat.le_of_ble_eq_true rfl) rfl kk
theorem gm_from {L : Nat → Nat → Int64} {z : Int64} (hd : decode M.2.1 pc = .ok (.getfield ix, 3)) (hw : Cond.fieldLink M.1.cls ix "ProofKernelModel" "from" "[I" ∈ pTB) (kk : pG M τ Q k n (pc + 3) ls (.ref (a 5) :: rest) (wM a i r L z ++ wr)) : pG M τ Q k n pc ls (.ref (a 0) :: rest) (wM a i r L z ++ wr) := g_get (q := 0) (ci := 5) (j := 7) (T := F_M) (N := 18) hd rfl rfl in_M (by decide) hw rfl rfl kk
theorem glm_from {L : Nat → Nat → Int64} {z : Int64} {j v : Int32} (hd : decode M.2.1 pc = .ok (.iaload, 1)) (hj : vp_in j 16) (hv : r 4 j.toNatClampNeg = v) (kk : pG M τ Q k n (pc + 1) ls (.int v :: rest) (wM a i r L z ++ wr)) : pG M τ Q k n pc ls (.int j :: .ref (a 5) :: rest) (wM a i r L z ++ wr) := g_iald (q := 5) hd rfl hj hv kk
theorem gsm_from {L : Nat → Nat → Int64} {z : Int64} {j v : Int32} (hd : decode M.2.1 pc = .ok (.iastore, 1)) (hj : vp_in j 16) (kk : pG M τ Q k n (pc + 1) ls rest (wM a i (va_up r 4 (upd (r 4) j.toNatClampNeg v)) L z ++ wr)) : pG M τ Q k n pc ls (.int v :: .int j :: .ref (a 5) :: rest) (wM a i r L z ++ wr) := g_iast (q := 5) (wM a i (va_up r 4 (upd (r 4) j.toNatClampNeg v)) L z ++ wr) hd rfl hj rfl kk
theorem gm_to {L : Nat → Nat → Int64} {z : Int64} (hd : decode M.2.1 pc = .ok (.getfield ix, 3)) (hw : Cond.fieldLink M.1.cls ix "ProofKernelModel" "to" "[I" ∈ pTB) (kk : pG M τ Q k n (pc + 3) ls (.ref (a 6) :: rest) (wM a i r L z ++ wr)) : pG M τ Q k n pc ls (.ref (a 0) :: rest) (wM a i r L z ++ wr) := g_get (q := 0) (ci := 5) (j := 8) (T := F_M) (N := 18) hd rfl rfl in_M (by decide) hw rfl rfl kk
theorem glm_to {L : Nat → Nat → Int64} {z : Int64} {j v : Int32} (hd : decode M.2.1 pc = .ok (.iaload, 1)) (hj : vp_in j 16) (hv : r 5 j.toNatClampNeg = v) (kk : pG M τ Q k n (pc + 1) ls (.int v :: rest) (wM a i r L z ++ wr)) : pG M τ Q k n pc ls (.int j :: .ref (a 6) :: rest) (wM a i r L z ++ wr) := g_iald (q := 6) hd rfl hj hv kk
theorem gsm_to {L : Nat → Nat → Int64} {z : Int64} {j v : Int32} (hd : decode M.2.1 pc = .ok (.iastore, 1)) (hj : vp_in j 16) (kk : pG M τ Q k n (pc + 1) ls rest (wM a i (va_up r 5 (upd (r 5) j.toNatClampNeg v)) L z ++ wr)) : pG M τ Q k n pc ls (.int v :: .int j :: .ref (a 6) :: rest) (wM a i r L z ++ wr) := g_iast (q := 6) (wM a i (va_up r 5 (upd (r 5) j.toNatClampNeg v)) L z ++ wr) hd rfl hj rfl kk
theorem gm_declared {L : Nat → Nat → Int64} {z : Int64} (hd : decode M.2.1 pc = .ok (.getfield ix, 3)) (hw : Cond.fieldLink M.1.cls ix "ProofKernelModel" "declared" "[I" ∈ pTB) (kk : pG M τ Q k n (pc + 3) ls (.ref (a 7) :: rest) (wM a i r L z ++ wr)) : pG M τ Q k n pc ls (.ref (a 0) :: rest) (wM a i r L z ++ wr) := g_get (q := 0) (ci := 5) (j := 9) (T := F_M) (N := 18) hd rfl rfl in_M (by decide) hw rfl rfl kk
theorem glm_declared {L : Nat → Nat → Int64} {z : Int64} {j v : Int32} (hd : decode M.2.1 pc = .ok (.iaload, 1)) (hj : vp_in j 4) (hv : r 6 j.toNatClampNeg = v) (kk : pG M τ Q k n (pc + 1) ls (.int v :: rest) (wM a i r L z ++ wr)) : pG M τ Q k n pc ls (.int j :: .ref (a 7) :: rest) (wM a i r L z ++ wr) := g_iald (q := 7) hd rfl hj hv kk
theorem gsm_declared {L : Nat → Nat → Int64} {z : Int64} {j v : Int32} (hd : decode M.2.1 pc = .ok (.iastore, 1)) (hj : vp_in j 4) (kk : pG M τ Q k n (pc + 1) ls rest (wM a i (va_up r 6 (upd (r 6) j.toNatClampNeg v)) L z ++ wr)) : pG M τ Q k n pc ls (.int v :: .int j :: .ref (a 7) :: rest) (wM a i r L z ++ wr) := g_iast (q := 7) (wM a i (va_up r 6 (upd (r 6) j.toNatClampNeg v)) L z ++ wr) hd rfl hj rfl kk
theorem gm_theorems {L : Nat → Nat → Int64} {z : Int64} (hd : decode M.2.1 pc = .ok (.getfield ix, 3)) (hw : Cond.fieldLink M.1.cls ix "ProofKernelModel" "theorems" "I" ∈ pTB) (kk : pG M τ Q k n (pc + 3) ls (.int (i 3) :: rest) (wM a i r L z ++ wr)) : pG M τ Q k n pc ls (.ref (a 0) :: rest) (wM a i r L z ++ wr) := g_get (q := 0) (ci := 5) (j := 10) (T := F_M) (N := 18) hd rfl rfl in_M (by decide) hw rfl rfl kk
theorem gm_theorems_p {L : Nat → Nat → Int64} {z : Int64} {v : Int32} (hd : decode M.2.1 pc = .ok (.putfield ix, 3)) (hw : Cond.fieldLink M.1.cls ix "ProofKernelModel" "theorems" "I" ∈ pTB) (kk : pG M τ Q k n (pc + 3) ls rest (wM a (upd i 3 v) r L z ++ wr)) : pG M τ Q k n pc ls (.int v :: .ref (a 0) :: rest) (wM a i r L z ++ wr) := g_put (q := 0) (ci := 5) (j := 10) (T := F_M) (N := 18) (ty := .int) (wM a (upd i 3 v) r L z ++ wr) hd rfl rfl in_M ft_M_ok n_M (by decide) hw rfl rfl (by decide +kernel) rfl rfl (Nat.le_of_ble_eq_true rfl) rfl kk
theorem gm_hypotheses {L : Nat → Nat → Int64} {z : Int64} (hd : decode M.2.1 pc = .ok (.getfield ix, 3)) (hw : Cond.fieldLink M.1.cls ix "ProofKernelModel" "hypotheses" "[J" ∈ pTB) (kk : pG M τ Q k n (pc + 3) ls (.ref (a 8) :: rest) (wM a i r L z ++ wr)) : pG M τ Q k n pc ls (.ref (a 0) :: rest) (wM a i r L z ++ wr) := g_get (q := 0) (ci := 5) (j := 11) (T := F_M) (N := 18) hd rfl rfl in_M (by decide) hw rfl rfl kk
theorem glm_hypotheses {L : Nat → Nat → Int64} {z : Int64} {j : Int32} {v : Int64} (hd : decode M.2.1 pc = .ok (.laload, 1)) (hj : vp_in j 40) (hv : L 0 j.toNatClampNeg = v) (kk : pG M τ Q k n (pc + 1) ls (.long v :: rest) (wM a i r L z ++ wr)) : pG M τ Q k n pc ls (.int j :: .ref (a 8) :: rest) (wM a i r L z ++ wr) := g_lald (q := 8) hd rfl hj hv kk
theorem gsm_hypotheses {L : Nat → Nat → Int64} {z : Int64} {j : Int32} {v : Int64} (hd : decode M.2.1 pc = .ok (.lastore, 1)) (hj : vp_in j 40) (kk : pG M τ Q k n (pc + 1) ls rest (wM a i r (va_up L 0 (vp_updL (L 0) j.toNatClampNeg v)) z ++ wr)) : pG M τ Q k n pc ls (.long v :: .int j :: .ref (a 8) :: rest) (wM a i r L z ++ wr) := g_last (q := 8) (wM a i r (va_up L 0 (vp_updL (L 0) j.toNatClampNeg v)) z ++ wr) hd rfl hj rfl kk
theorem gm_conclusion {L : Nat → Nat → Int64} {z : Int64} (hd : decode M.2.1 pc = .ok (.getfield ix, 3)) (hw : Cond.fieldLink M.1.cls ix "ProofKernelModel" "conclusion" "[I" ∈ pTB) (kk : pG M τ Q k n (pc + 3) ls (.ref (a 9) :: rest) (wM a i r L z ++ wr)) : pG M τ Q k n pc ls (.ref (a 0) :: rest) (wM a i r L z ++ wr) := g_get (q := 0) (ci := 5) (j := 12) (T := F_M) (N := 18) hd rfl rfl in_M (by decide) hw rfl rfl kk
theorem glm_conclusion {L : Nat → Nat → Int64} {z : Int64} {j v : Int32} (hd : decode M.2.1 pc = .ok (.iaload, 1)) (hj : vp_in j 40) (hv : r 7 j.toNatClampNeg = v) (kk : pG M τ Q k n (pc + 1) ls (.int v :: rest) (wM a i r L z ++ wr)) : pG M τ Q k n pc ls (.int j :: .ref (a 9) :: rest) (wM a i r L z ++ wr) := g_iald (q := 9) hd rfl hj hv kk
theorem gsm_conclusion {L : Nat → Nat → Int64} {z : Int64} {j v : Int32} (hd : decode M.2.1 pc = .ok (.iastore, 1)) (hj : vp_in j 40) (kk : pG M τ Q k n (pc + 1) ls rest (wM a i (va_up r 7 (upd (r 7) j.toNatClampNeg v)) L z ++ wr)) : pG M τ Q k n pc ls (.int v :: .int j :: .ref (a 9) :: rest) (wM a i r L z ++ wr) := g_iast (q := 9) (wM a i (va_up r 7 (upd (r 7) j.toNatClampNeg v)) L z ++ wr) hd rfl hj rfl kk
theorem gm_axioms {L : Nat → Nat → Int64} {z : Int64} (hd : decode M.2.1 pc = .ok (.getfield ix, 3)) (hw : Cond.fieldLink M.1.cls ix "ProofKernelModel" "axioms" "[J" ∈ pTB) (kk : pG M τ Q k n (pc + 3) ls (.ref (a 10) :: rest) (wM a i r L z ++ wr)) : pG M τ Q k n pc ls (.ref (a 0) :: rest) (wM a i r L z ++ wr) := g_get (q := 0) (ci := 5) (j := 13) (T := F_M) (N := 18) hd rfl rfl in_M (by decide) hw rfl rfl kk
theorem glm_axioms {L : Nat → Nat → Int64} {z : Int64} {j : Int32} {v : Int64} (hd : decode M.2.1 pc = .ok (.laload, 1)) (hj : vp_in j 40) (hv : L 1 j.toNatClampNeg = v) (kk : pG M τ Q k n (pc + 1) ls (.long v :: rest) (wM a i r L z ++ wr)) : pG M τ Q k n pc ls (.int j :: .ref (a 10) :: rest) (wM a i r L z ++ wr) := g_lald (q := 10) hd rfl hj hv kk
theorem gsm_axioms {L : Nat → Nat → Int64} {z : Int64} {j : Int32} {v : Int64} (hd : decode M.2.1 pc = .ok (.lastore, 1)) (hj : vp_in j 40) (kk : pG M τ Q k n (pc + 1) ls rest (wM a i r (va_up L 1 (vp_updL (L 1) j.toNatClampNeg v)) z ++ wr)) : pG M τ Q k n pc ls (.long v :: .int j :: .ref (a 10) :: rest) (wM a i r L z ++ wr) := g_last (q := 10) (wM a i r (va_up L 1 (vp_updL (L 1) j.toNatClampNeg v)) z ++ wr) hd rfl hj rfl kk
theorem gm_steps {L : Nat → Nat → Int64} {z : Int64} (hd : decode M.2.1 pc = .ok (.getfield ix, 3)) (hw : Cond.fieldLink M.1.cls ix "ProofKernelModel" "steps" "[I" ∈ pTB) (kk : pG M τ Q k n (pc + 3) ls (.ref (a 11) :: rest) (wM a i r L z ++ wr)) : pG M τ Q k n pc ls (.ref (a 0) :: rest) (wM a i r L z ++ wr) := g_get (q := 0) (ci := 5) (j := 14) (T := F_M) (N := 18) hd rfl rfl in_M (by decide) hw rfl rfl kk
theorem glm_steps {L : Nat → Nat → Int64} {z : Int64} {j v : Int32} (hd : decode M.2.1 pc = .ok (.iaload, 1)) (hj : vp_in j 40) (hv : r 8 j.toNatClampNeg = v) (kk : pG M τ Q k n (pc + 1) ls (.int v :: rest) (wM a i r L z ++ wr)) : pG M τ Q k n pc ls (.int j :: .ref (a 11) :: rest) (wM a i r L z ++ wr) := g_iald (q := 11) hd rfl hj hv kk
theorem gsm_steps {L : Nat → Nat → Int64} {z : Int64} {j v : Int32} (hd : decode M.2.1 pc = .ok (.iastore, 1)) (hj : vp_in j 40) (kk : pG M τ Q k n (pc + 1) ls rest (wM a i (va_up r 8 (upd (r 8) j.toNatClampNeg v)) L z ++ wr)) : pG M τ Q k n pc ls (.int v :: .int j :: .ref (a 11) :: rest) (wM a i r L z ++ wr) := g_iast (q := 11) (wM a i (va_up r 8 (upd (r 8) j.toNatClampNeg v)) L z ++ wr) hd rfl hj rfl kk
theorem gm_set {L : Nat → Nat → Int64} {z : Int64} (hd : decode M.2.1 pc = .ok (.getfield ix, 3)) (hw : Cond.fieldLink M.1.cls ix "ProofKernelModel" "set" "J" ∈ pTB) (kk : pG M τ Q k n (pc + 3) ls (.long z :: rest) (wM a i r L z ++ wr)) : pG M τ Q k n pc ls (.ref (a 0) :: rest) (wM a i r L z ++ wr) := g_get (q := 0) (ci := 5) (j := 15) (T := F_M) (N := 18) hd rfl rfl in_M (by decide) hw rfl rfl kk
theorem gm_set_p {L : Nat → Nat → Int64} {z : Int64} {v : Int64} (hd : decode M.2.1 pc = .ok (.putfield ix, 3)) (hw : Cond.fieldLink M.1.cls ix "ProofKernelModel" "set" "J" ∈ pTB) (kk : pG M τ Q k n (pc + 3) ls rest (wM a i r L v ++ wr)) : pG M τ Q k n pc ls (.long v :: .ref (a 0) :: rest) (wM a i r L z ++ wr) := g_put (q := 0) (ci := 5) (j := 15) (T := F_M) (N := 18) (ty := .long) (wM a i r L v ++ wr) hd rfl rfl in_M ft_M_ok n_M (by decide) hw rfl rfl (by decide +kernel) rfl rfl (Nat.le_of_ble_eq_true rfl) rfl kk
theorem gm_text {L : Nat → Nat → Int64} {z : Int64} (hd : decode M.2.1 pc = .ok (.getfield ix, 3)) (hw : Cond.fieldLink M.1.cls ix "ProofKernelModel" "text" "[I" ∈ pTB) (kk : pG M τ Q k n (pc + 3) ls (.ref (a 12) :: rest) (wM a i r L z ++ wr)) : pG M τ Q k n pc ls (.ref (a 0) :: rest) (wM a i r L z ++ wr) := g_get (q := 0) (ci := 5) (j := 16) (T := F_M) (N := 18) hd rfl rfl in_M (by decide) hw rfl rfl kk
theorem glm_text {L : Nat → Nat → Int64} {z : Int64} {j v : Int32} (hd : decode M.2.1 pc = .ok (.iaload, 1)) (hj : vp_in j 64) (hv : r 9 j.toNatClampNeg = v) (kk : pG M τ Q k n (pc + 1) ls (.int v :: rest) (wM a i r L z ++ wr)) : pG M τ Q k n pc ls (.int j :: .ref (a 12) :: rest) (wM a i r L z ++ wr) := g_iald (q := 12) hd rfl hj hv kk
theorem gsm_text {L : Nat → Nat → Int64} {z : Int64} {j v : Int32} (hd : decode M.2.1 pc = .ok (.iastore, 1)) (hj : vp_in j 64) (kk : pG M τ Q k n (pc + 1) ls rest (wM a i (va_up r 9 (upd (r 9) j.toNatClampNeg v)) L z ++ wr)) : pG M τ Q k n pc ls (.int v :: .int j :: .ref (a 12) :: rest) (wM a i r L z ++ wr) := g_iast (q := 12) (wM a i (va_up r 9 (upd (r 9) j.toNatClampNeg v)) L z ++ wr) hd rfl hj rfl kk
theorem gm_size {L : Nat → Nat → Int64} {z : Int64} (hd : decode M.2.1 pc = .ok (.getfield ix, 3)) (hw : Cond.fieldLink M.1.cls ix "ProofKernelModel" "size" "I" ∈ pTB) (kk : pG M τ Q k n (pc + 3) ls (.int (i 4) :: rest) (wM a i r L z ++ wr)) : pG M τ Q k n pc ls (.ref (a 0) :: rest) (wM a i r L z ++ wr) := g_get (q := 0) (ci := 5) (j := 17) (T := F_M) (N := 18) hd rfl rfl in_M (by decide) hw rfl rfl kk
theorem gm_size_p {L : Nat → Nat → Int64} {z : Int64} {v : Int32} (hd : decode M.2.1 pc = .ok (.putfield ix, 3)) (hw : Cond.fieldLink M.1.cls ix "ProofKernelModel" "size" "I" ∈ pTB) (kk : pG M τ Q k n (pc + 3) ls rest (wM a (upd i 4 v) r L z ++ wr)) : pG M τ Q k n pc ls (.int v :: .ref (a 0) :: rest) (wM a i r L z ++ wr) := g_put (q := 0) (ci := 5) (j := 17) (T := F_M) (N := 18) (ty := .int) (wM a (upd i 4 v) r L z ++ wr) hd rfl rfl in_M ft_M_ok n_M (by decide) hw rfl rfl (by decide +kernel) rfl rfl (Nat.le_of_ble_eq_true rfl) rfl kk
end wRules
theorem v_K_init : pI m_K_init 0 := ⟨wc_K_init, wi_K_init, ini_K, rfl, rfl, by decide +kernel⟩
theorem v_K_arrow : pV m_K_arrow 2 := ⟨wc_K_arrow, wi_K_arrow, wl_K_arrow, ini_K, by decide +kernel⟩
theorem v_K_variable : pV m_K_variable 2 := ⟨wc_K_variable, wi_K_variable, wl_K_variable, ini_K, by decide +kernel⟩
theorem v_K_constant : pV m_K_constant 2 := ⟨wc_K_constant, wi_K_constant, wl_K_constant, ini_K, by decide +kernel⟩
theorem v_K_apply : pV m_K_apply 2 := ⟨wc_K_apply, wi_K_apply, wl_K_apply, ini_K, by decide +kernel⟩
theorem v_K_bind : pV m_K_bind 3 := ⟨wc_K_bind, wi_K_bind, wl_K_bind, ini_K, by decide +kernel⟩
theorem v_K_join : pV m_K_join 3 := ⟨wc_K_join, wi_K_join, wl_K_join, ini_K, by decide +kernel⟩
theorem v_K_rule : pV m_K_rule 3 := ⟨wc_K_rule, wi_K_rule, wl_K_rule, ini_K, by decide +kernel⟩
theorem v_K_terms : pV m_K_terms 0 := ⟨wc_K_terms, wi_K_terms, wl_K_terms, ini_K, by decide +kernel⟩
theorem v_K_theorems : pV m_K_theorems 0 := ⟨wc_K_theorems, wi_K_theorems, wl_K_theorems, ini_K, by decide +kernel⟩
theorem v_K_typeOf : pV m_K_typeOf 1 := ⟨wc_K_typeOf, wi_K_typeOf, wl_K_typeOf, ini_K, by decide +kernel⟩
theorem v_K_size : pV m_K_size 1 := ⟨wc_K_size, wi_K_size, wl_K_size, ini_K, by decide +kernel⟩
theorem v_K_free : pV m_K_free 2 := ⟨wc_K_free, wi_K_free, wl_K_free, ini_K, by decide +kernel⟩
theorem v_K_printed : pV m_K_printed 2 := ⟨wc_K_printed, wi_K_printed, wl_K_printed, ini_K, by decide +kernel⟩
theorem v_K_conclusion : pV m_K_conclusion 1 := ⟨wc_K_conclusion, wi_K_conclusion, wl_K_conclusion, ini_K, by decide +kernel⟩
theorem v_K_hypotheses : pV m_K_hypotheses 1 := ⟨wc_K_hypotheses, wi_K_hypotheses, wl_K_hypotheses, ini_K, by decide +kernel⟩
theorem v_K_axioms : pV m_K_axioms 1 := ⟨wc_K_axioms, wi_K_axioms, wl_K_axioms, ini_K, by decide +kernel⟩
theorem v_K_steps : pV m_K_steps 1 := ⟨wc_K_steps, wi_K_steps, wl_K_steps, ini_K, by decide +kernel⟩
theorem v_K_typeAt : pV m_K_typeAt 1 := ⟨wc_K_typeAt, wi_K_typeAt, wl_K_typeAt, ini_K, by decide +kernel⟩
theorem v_K_isA : pV m_K_isA 2 := ⟨wc_K_isA, wi_K_isA, wl_K_isA, ini_K, by decide +kernel⟩
theorem v_K_declaredType : pV m_K_declaredType 1 := ⟨wc_K_declaredType, wi_K_declaredType, wl_K_declaredType, ini_K, by decide +kernel⟩
theorem v_K_draftApplication : pV m_K_draftApplication 2 := ⟨wc_K_draftApplication, wi_K_draftApplication, wl_K_draftApplication, ini_K, by decide +kernel⟩
theorem v_K_draftAbstraction : pV m_K_draftAbstraction 2 := ⟨wc_K_draftAbstraction, wi_K_draftAbstraction, wl_K_draftAbstraction, ini_K, by decide +kernel⟩
theorem v_K_draftJoint : pV m_K_draftJoint 3 := ⟨wc_K_draftJoint, wi_K_draftJoint, wl_K_draftJoint, ini_K, by decide +kernel⟩
theorem v_K_isThere : pV m_K_isThere 2 := ⟨wc_K_isThere, wi_K_isThere, wl_K_isThere, ini_K, by decide +kernel⟩
theorem v_K_startOf : pV m_K_startOf 2 := ⟨wc_K_startOf, wi_K_startOf, wl_K_startOf, ini_K, by decide +kernel⟩
theorem v_K_isAsTheRuleSays : pV m_K_isAsTheRuleSays 3 := ⟨wc_K_isAsTheRuleSays, wi_K_isAsTheRuleSays, wl_K_isAsTheRuleSays, ini_K, by decide +kernel⟩
theorem v_K_bindsWhatIsAssumed : pV m_K_bindsWhatIsAssumed 3 := ⟨wc_K_bindsWhatIsAssumed, wi_K_bindsWhatIsAssumed, wl_K_bindsWhatIsAssumed, ini_K, by decide +kernel⟩
theorem v_K_derive : pV m_K_derive 3 := ⟨wc_K_derive, wi_K_derive, wl_K_derive, ini_K, by decide +kernel⟩
theorem v_K_joinedHypotheses : pV m_K_joinedHypotheses 3 := ⟨wc_K_joinedHypotheses, wi_K_joinedHypotheses, wl_K_joinedHypotheses, ini_K, by decide +kernel⟩
theorem v_K_substitutedHypotheses : pV m_K_substitutedHypotheses 2 := ⟨wc_K_substitutedHypotheses, wi_K_substitutedHypotheses, wl_K_substitutedHypotheses, ini_K, by decide +kernel⟩
theorem v_K_draftSubstituted : pV m_K_draftSubstituted 2 := ⟨wc_K_draftSubstituted, wi_K_draftSubstituted, wl_K_draftSubstituted, ini_K, by decide +kernel⟩
theorem v_K_draftConclusion : pV m_K_draftConclusion 3 := ⟨wc_K_draftConclusion, wi_K_draftConclusion, wl_K_draftConclusion, ini_K, by decide +kernel⟩
theorem v_K_isIn : pS m_K_isIn 2 := ⟨wc_K_isIn, ws_K_isIn, ini_K, by decide +kernel⟩
theorem v_M_init : pI m_M_init 0 := ⟨wc_M_init, wi_M_init, ini_M, rfl, rfl, by decide +kernel⟩
theorem v_M_parts : pS m_M_parts 1 := ⟨wc_M_parts, ws_M_parts, ini_M, by decide +kernel⟩
theorem v_M_isVariable : pS m_M_isVariable 1 := ⟨wc_M_isVariable, ws_M_isVariable, ini_M, by decide +kernel⟩
theorem v_M_end : pV m_M_end 1 := ⟨wc_M_end, wi_M_end, wl_M_end, ini_M, by decide +kernel⟩
theorem v_M_same : pV m_M_same 2 := ⟨wc_M_same, wi_M_same, wl_M_same, ini_M, by decide +kernel⟩
theorem v_M_depth : pV m_M_depth 2 := ⟨wc_M_depth, wi_M_depth, wl_M_depth, ini_M, by decide +kernel⟩
theorem v_M_binder : pV m_M_binder 1 := ⟨wc_M_binder, wi_M_binder, wl_M_binder, ini_M, by decide +kernel⟩
theorem v_M_find : pV m_M_find 2 := ⟨wc_M_find, wi_M_find, wl_M_find, ini_M, by decide +kernel⟩
theorem v_M_typesAt : pV m_M_typesAt 1 := ⟨wc_M_typesAt, wi_M_typesAt, wl_M_typesAt, ini_M, by decide +kernel⟩
theorem v_M_put : pV m_M_put 1 := ⟨wc_M_put, wi_M_put, wl_M_put, ini_M, by decide +kernel⟩
theorem v_M_copy : pV m_M_copy 1 := ⟨wc_M_copy, wi_M_copy, wl_M_copy, ini_M, by decide +kernel⟩
theorem v_M_copyWith : pV m_M_copyWith 3 := ⟨wc_M_copyWith, wi_M_copyWith, wl_M_copyWith, ini_M, by decide +kernel⟩
theorem v_M_copyOpened : pV m_M_copyOpened 2 := ⟨wc_M_copyOpened, wi_M_copyOpened, wl_M_copyOpened, ini_M, by decide +kernel⟩
theorem v_M_keep : pV m_M_keep 0 := ⟨wc_M_keep, wi_M_keep, wl_M_keep, ini_M, by decide +kernel⟩
theorem v_M_isType : pV m_M_isType 1 := ⟨wc_M_isType, wi_M_isType, wl_M_isType, ini_M, by decide +kernel⟩
theorem v_M_isTerm : pV m_M_isTerm 1 := ⟨wc_M_isTerm, wi_M_isTerm, wl_M_isTerm, ini_M, by decide +kernel⟩
theorem v_M_isVariableTerm : pV m_M_isVariableTerm 1 := ⟨wc_M_isVariableTerm, wi_M_isVariableTerm, wl_M_isVariableTerm, ini_M, by decide +kernel⟩
theorem v_M_arrow : pV m_M_arrow 2 := ⟨wc_M_arrow, wi_M_arrow, wl_M_arrow, ini_M, by decide +kernel⟩
theorem v_M_variable : pV m_M_variable 2 := ⟨wc_M_variable, wi_M_variable, wl_M_variable, ini_M, by decide +kernel⟩
theorem v_M_constant : pV m_M_constant 2 := ⟨wc_M_constant, wi_M_constant, wl_M_constant, ini_M, by decide +kernel⟩
theorem v_M_fits : pV m_M_fits 2 := ⟨wc_M_fits, wi_M_fits, wl_M_fits, ini_M, by decide +kernel⟩
theorem v_M_apply : pV m_M_apply 2 := ⟨wc_M_apply, wi_M_apply, wl_M_apply, ini_M, by decide +kernel⟩
theorem v_M_bind : pV m_M_bind 3 := ⟨wc_M_bind, wi_M_bind, wl_M_bind, ini_M, by decide +kernel⟩
theorem v_M_join : pV m_M_join 3 := ⟨wc_M_join, wi_M_join, wl_M_join, ini_M, by decide +kernel⟩
theorem v_M_isTheorem : pV m_M_isTheorem 1 := ⟨wc_M_isTheorem, wi_M_isTheorem, wl_M_isTheorem, ini_M, by decide +kernel⟩
theorem v_M_isIn : pV m_M_isIn 2 := ⟨wc_M_isIn, wi_M_isIn, wl_M_isIn, ini_M, by decide +kernel⟩
theorem v_M_freeInSet : pV m_M_freeInSet 1 := ⟨wc_M_freeInSet, wi_M_freeInSet, wl_M_freeInSet, ini_M, by decide +kernel⟩
theorem v_M_named : pS m_M_named 1 := ⟨wc_M_named, ws_M_named, ini_M, by decide +kernel⟩
theorem v_M_there : pV m_M_there 3 := ⟨wc_M_there, wi_M_there, wl_M_there, ini_M, by decide +kernel⟩
theorem v_M_reason : pV m_M_reason 3 := ⟨wc_M_reason, wi_M_reason, wl_M_reason, ini_M, by decide +kernel⟩
theorem v_M_equate : pV m_M_equate 3 := ⟨wc_M_equate, wi_M_equate, wl_M_equate, ini_M, by decide +kernel⟩
theorem v_M_abstraction : pV m_M_abstraction 3 := ⟨wc_M_abstraction, wi_M_abstraction, wl_M_abstraction, ini_M, by decide +kernel⟩
theorem v_M_two : pV m_M_two 4 := ⟨wc_M_two, wi_M_two, wl_M_two, ini_M, by decide +kernel⟩
theorem v_M_substitute : pV m_M_substitute 3 := ⟨wc_M_substitute, wi_M_substitute, wl_M_substitute, ini_M, by decide +kernel⟩
theorem v_M_rule : pV m_M_rule 3 := ⟨wc_M_rule, wi_M_rule, wl_M_rule, ini_M, by decide +kernel⟩
theorem v_M_terms : pV m_M_terms 0 := ⟨wc_M_terms, wi_M_terms, wl_M_terms, ini_M, by decide +kernel⟩
theorem v_M_theorems : pV m_M_theorems 0 := ⟨wc_M_theorems, wi_M_theorems, wl_M_theorems, ini_M, by decide +kernel⟩
theorem v_M_typeOf : pV m_M_typeOf 1 := ⟨wc_M_typeOf, wi_M_typeOf, wl_M_typeOf, ini_M, by decide +kernel⟩
theorem v_M_size : pV m_M_size 1 := ⟨wc_M_size, wi_M_size, wl_M_size, ini_M, by decide +kernel⟩
theorem v_M_free : pV m_M_free 2 := ⟨wc_M_free, wi_M_free, wl_M_free, ini_M, by decide +kernel⟩
theorem v_M_say : pV m_M_say 1 := ⟨wc_M_say, wi_M_say, wl_M_say, ini_M, by decide +kernel⟩
theorem v_M_printed : pV m_M_printed 2 := ⟨wc_M_printed, wi_M_printed, wl_M_printed, ini_M, by decide +kernel⟩
theorem v_M_conclusion : pV m_M_conclusion 1 := ⟨wc_M_conclusion, wi_M_conclusion, wl_M_conclusion, ini_M, by decide +kernel⟩
theorem v_M_hypotheses : pV m_M_hypotheses 1 := ⟨wc_M_hypotheses, wi_M_hypotheses, wl_M_hypotheses, ini_M, by decide +kernel⟩
theorem v_M_axioms : pV m_M_axioms 1 := ⟨wc_M_axioms, wi_M_axioms, wl_M_axioms, ini_M, by decide +kernel⟩
theorem v_M_steps : pV m_M_steps 1 := ⟨wc_M_steps, wi_M_steps, wl_M_steps, ini_M, by decide +kernel⟩
theorem v_B_init : pI m_B_init 0 := ⟨wc_B_init, wi_B_init, ini_B, rfl, rfl, by decide +kernel⟩
theorem v_B_count : pV m_B_count 0 := ⟨wc_B_count, wi_B_count, wl_B_count, ini_B, by decide +kernel⟩
theorem v_B_has : pV m_B_has 1 := ⟨wc_B_has, wi_B_has, wl_B_has, ini_B, by decide +kernel⟩
theorem v_B_isFull : pV m_B_isFull 0 := ⟨wc_B_isFull, wi_B_isFull, wl_B_isFull, ini_B, by decide +kernel⟩
theorem v_B_hypothesesOf : pV m_B_hypothesesOf 1 := ⟨wc_B_hypothesesOf, wi_B_hypothesesOf, wl_B_hypothesesOf, ini_B, by decide +kernel⟩
theorem v_B_conclusionOf : pV m_B_conclusionOf 1 := ⟨wc_B_conclusionOf, wi_B_conclusionOf, wl_B_conclusionOf, ini_B, by decide +kernel⟩
theorem v_B_axiomsOf : pV m_B_axiomsOf 1 := ⟨wc_B_axiomsOf, wi_B_axiomsOf, wl_B_axiomsOf, ini_B, by decide +kernel⟩
theorem v_B_stepsOf : pV m_B_stepsOf 1 := ⟨wc_B_stepsOf, wi_B_stepsOf, wl_B_stepsOf, ini_B, by decide +kernel⟩
theorem v_B_add : pV m_B_add 5 := ⟨wc_B_add, wi_B_add, wl_B_add, ini_B, by decide +kernel⟩
theorem v_B_firstPremise : pV m_B_firstPremise 1 := ⟨wc_B_firstPremise, wi_B_firstPremise, wl_B_firstPremise, ini_B, by decide +kernel⟩
theorem v_B_secondPremise : pV m_B_secondPremise 1 := ⟨wc_B_secondPremise, wi_B_secondPremise, wl_B_secondPremise, ini_B, by decide +kernel⟩
theorem v_B_stepsBefore : pV m_B_stepsBefore 1 := ⟨wc_B_stepsBefore, wi_B_stepsBefore, wl_B_stepsBefore, ini_B, by decide +kernel⟩
theorem v_B_setOf : pS m_B_setOf 1 := ⟨wc_B_setOf, ws_B_setOf, ini_B, by decide +kernel⟩
theorem v_D_init : pI m_D_init 1 := ⟨wc_D_init, wi_D_init, ini_D, rfl, rfl, by decide +kernel⟩
theorem v_D_clear : pV m_D_clear 0 := ⟨wc_D_clear, wi_D_clear, wl_D_clear, ini_D, by decide +kernel⟩
theorem v_D_length : pV m_D_length 0 := ⟨wc_D_length, wi_D_length, wl_D_length, ini_D, by decide +kernel⟩
theorem v_D_isTooLarge : pV m_D_isTooLarge 0 := ⟨wc_D_isTooLarge, wi_D_isTooLarge, wl_D_isTooLarge, ini_D, by decide +kernel⟩
theorem v_D_spoil : pV m_D_spoil 0 := ⟨wc_D_spoil, wi_D_spoil, wl_D_spoil, ini_D, by decide +kernel⟩
theorem v_D_add : pV m_D_add 1 := ⟨wc_D_add, wi_D_add, wl_D_add, ini_D, by decide +kernel⟩
theorem v_D_addPart : pV m_D_addPart 1 := ⟨wc_D_addPart, wi_D_addPart, wl_D_addPart, ini_D, by decide +kernel⟩
theorem v_D_addBinder : pV m_D_addBinder 4 := ⟨wc_D_addBinder, wi_D_addBinder, wl_D_addBinder, ini_D, by decide +kernel⟩
theorem v_D_addFilling : pV m_D_addFilling 2 := ⟨wc_D_addFilling, wi_D_addFilling, wl_D_addFilling, ini_D, by decide +kernel⟩
theorem v_D_addReplacing : pV m_D_addReplacing 3 := ⟨wc_D_addReplacing, wi_D_addReplacing, wl_D_addReplacing, ini_D, by decide +kernel⟩
theorem v_D_isAt : pV m_D_isAt 1 := ⟨wc_D_isAt, wi_D_isAt, wl_D_isAt, ini_D, by decide +kernel⟩
theorem v_D_copyTo : pV m_D_copyTo 2 := ⟨wc_D_copyTo, wi_D_copyTo, wl_D_copyTo, ini_D, by decide +kernel⟩
theorem v_D_beginWalk : pV m_D_beginWalk 0 := ⟨wc_D_beginWalk, wi_D_beginWalk, wl_D_beginWalk, ini_D, by decide +kernel⟩
theorem v_D_walkOver : pV m_D_walkOver 1 := ⟨wc_D_walkOver, wi_D_walkOver, wl_D_walkOver, ini_D, by decide +kernel⟩
theorem v_S_init : pI m_S_init 0 := ⟨wc_S_init, wi_S_init, ini_S, rfl, rfl, by decide +kernel⟩
theorem v_S_count : pV m_S_count 0 := ⟨wc_S_count, wi_S_count, wl_S_count, ini_S, by decide +kernel⟩
theorem v_S_has : pV m_S_has 1 := ⟨wc_S_has, wi_S_has, wl_S_has, ini_S, by decide +kernel⟩
theorem v_S_start : pV m_S_start 1 := ⟨wc_S_start, wi_S_start, wl_S_start, ini_S, by decide +kernel⟩
theorem v_S_length : pV m_S_length 1 := ⟨wc_S_length, wi_S_length, wl_S_length, ini_S, by decide +kernel⟩
theorem v_S_token : pV m_S_token 1 := ⟨wc_S_token, wi_S_token, wl_S_token, ini_S, by decide +kernel⟩
theorem v_S_firstPart : pV m_S_firstPart 1 := ⟨wc_S_firstPart, wi_S_firstPart, wl_S_firstPart, ini_S, by decide +kernel⟩
theorem v_S_secondPart : pV m_S_secondPart 1 := ⟨wc_S_secondPart, wi_S_secondPart, wl_S_secondPart, ini_S, by decide +kernel⟩
theorem v_S_behind : pV m_S_behind 1 := ⟨wc_S_behind, wi_S_behind, wl_S_behind, ini_S, by decide +kernel⟩
theorem v_S_same : pV m_S_same 2 := ⟨wc_S_same, wi_S_same, wl_S_same, ini_S, by decide +kernel⟩
theorem v_S_holds : pV m_S_holds 2 := ⟨wc_S_holds, wi_S_holds, wl_S_holds, ini_S, by decide +kernel⟩
theorem v_S_keep : pV m_S_keep 1 := ⟨wc_S_keep, wi_S_keep, wl_S_keep, ini_S, by decide +kernel⟩
theorem v_S_cutTo : pV m_S_cutTo 1 := ⟨wc_S_cutTo, wi_S_cutTo, wl_S_cutTo, ini_S, by decide +kernel⟩
theorem v_O_of : pS m_O_of 3 := ⟨wc_O_of, ws_O_of, ini_O, by decide +kernel⟩
theorem v_O_tag : pS m_O_tag 1 := ⟨wc_O_tag, ws_O_tag, ini_O, by decide +kernel⟩
theorem v_O_info : pS m_O_info 1 := ⟨wc_O_info, ws_O_info, ini_O, by decide +kernel⟩
theorem v_O_type : pS m_O_type 1 := ⟨wc_O_type, ws_O_type, ini_O, by decide +kernel⟩
theorem v_O_binds : pS m_O_binds 1 := ⟨wc_O_binds, ws_O_binds, ini_O, by decide +kernel⟩
theorem v_O_parts : pS m_O_parts 1 := ⟨wc_O_parts, ws_O_parts, ini_O, by decide +kernel⟩
theorem v_O_letter : pS m_O_letter 1 := ⟨wc_O_letter, ws_O_letter, ini_O, by decide +kernel⟩
theorem v_O_showsType : pS m_O_showsType 1 := ⟨wc_O_showsType, ws_O_showsType, ini_O, by decide +kernel⟩
theorem v_O_typeLetter : pS m_O_typeLetter 1 := ⟨wc_O_typeLetter, ws_O_typeLetter, ini_O, by decide +kernel⟩
theorem v_T_init : pI m_T_init 0 := ⟨wc_T_init, wi_T_init, ini_T, rfl, rfl, by decide +kernel⟩
theorem v_T_count : pV m_T_count 0 := ⟨wc_T_count, wi_T_count, wl_T_count, ini_T, by decide +kernel⟩
theorem v_T_has : pV m_T_has 1 := ⟨wc_T_has, wi_T_has, wl_T_has, ini_T, by decide +kernel⟩
theorem v_T_takes : pV m_T_takes 2 := ⟨wc_T_takes, wi_T_takes, wl_T_takes, ini_T, by decide +kernel⟩
theorem v_T_result : pV m_T_result 1 := ⟨wc_T_result, wi_T_result, wl_T_result, ini_T, by decide +kernel⟩
theorem v_T_numberOf : pV m_T_numberOf 2 := ⟨wc_T_numberOf, wi_T_numberOf, wl_T_numberOf, ini_T, by decide +kernel⟩
theorem v_T_cutTo : pV m_T_cutTo 1 := ⟨wc_T_cutTo, wi_T_cutTo, wl_T_cutTo, ini_T, by decide +kernel⟩
end
section
/-! Booleans as ints, tokens as numbers. -/
def bI (b : Bool) : Int32 := if b then nI 1 else nI 0
theorem bI_t : bI true = nI 1 := rfl
theorem bI_f : bI false = nI 0 := rfl
theorem narrow_bI (b : Bool) : narrow .boolean (.int (bI b)) = .int (bI b) := by cases b <;> rfl
theorem bI_1 {b : Bool} (h : b = true) : nI 1 = bI b := by rw [h]; rfl
theorem bI_0 {b : Bool} (h : b = false) : nI 0 = bI b := by rw [h]; rfl
section bRules
variable {M : pMD} {τ : Nat × Nat} {Q : Option Value → pW → Prop} {k n pc : Nat} {ls : List (Nat × Value)} {rest : List Value} {w : pW}
theorem g_ifb_eq {b : Bool} {off : Int} {tgt : Nat} (hd : decode M.2.1 pc = .ok (.ifCond .eq off, 3)) (ht : (pc : Int) + off = (tgt : Int)) (kt : b = false → pG M τ Q k n tgt ls rest w) (kf : b = true → pG M τ Q k n (pc + 3) ls rest w) : pG M τ Q k n pc ls (.int (bI b) :: rest) w := by
  cases b
  · exact g_if_eq hd ht (fun _ => kt rfl) (fun h => absurd rfl h)
  · exact g_if_eq hd ht (fun h => absurd h (by decide)) (fun _ => kf rfl)
theorem g_ifb_ne {b : Bool} {off : Int} {tgt : Nat} (hd : decode M.2.1 pc = .ok (.ifCond .ne off, 3)) (ht : (pc : Int) + off = (tgt : Int)) (kt : b = true → pG M τ Q k n tgt ls rest w) (kf : b = false → pG M τ Q k n (pc + 3) ls rest w) : pG M τ Q k n pc ls (.int (bI b) :: rest) w := by
  cases b
  · exact g_if_ne hd ht (fun h => absurd rfl h) (fun _ => kf rfl)
  · exact g_if_ne hd ht (fun _ => kt rfl) (fun h => absurd h (by decide))
end bRules
/-- a token of the class: what it is, its info, its type -/
def tok (t i y : Nat) : Nat := t * 512 + i * 16 + y
abbrev kTg (x : Nat) : Nat := x / 512
abbrev kIn (x : Nat) : Nat := x / 16 % 32
abbrev kTy (x : Nat) : Nat := x % 16
def kPt (x : Nat) : Nat := if x / 512 < 3 then 0 else if x / 512 < 5 then 1 else 2
def kBd (x : Nat) : Bool := decide (x / 512 = 3) || decide (x / 512 = 4)
theorem tok_or : ∀ t, t < 8 → ∀ i, i < 32 → ∀ y, y < 16 → (nI t <<< (nI 9 &&& 31)) ||| (nI i <<< (nI 4 &&& 31)) ||| nI y = nI (tok t i y) := by decide +kernel
theorem k_tag {x : Nat} (h : x < 4096) : nI x >>> (nI 9 &&& 31) = nI (x / 512) := pk_shrN (by omega) (nI 9 &&& 31) 9 (by decide)
theorem k_sh4 {x : Nat} (h : x < 4096) : nI x >>> (nI 4 &&& 31) = nI (x / 16) := pk_shrN (by omega) (nI 4 &&& 31) 4 (by decide)
theorem k_info {x : Nat} (h : x < 4096) : (nI x >>> (nI 4 &&& 31)) &&& nI 31 = nI (x / 16 % 32) := by rw [k_sh4 h]; exact pk_andN (by omega) 5 (by decide)
theorem k_type {x : Nat} (h : x < 4096) : nI x &&& nI 15 = nI (x % 16) := pk_andN (by omega) 4 (by decide)
theorem tok_lt {t i y : Nat} (ht : t < 8) (hi : i < 32) (hy : y < 16) : tok t i y < 4096 := by unfold tok; omega
theorem tok_tg {t i y : Nat} (hi : i < 32) (hy : y < 16) : tok t i y / 512 = t := by unfold tok; omega
theorem tok_in {t i y : Nat} (hi : i < 32) (hy : y < 16) : tok t i y / 16 % 32 = i := by unfold tok; omega
theorem tok_ty {t i y : Nat} (hy : y < 16) : tok t i y % 16 = y := by unfold tok; omega
theorem tok_eta {x : Nat} (h : x < 4096) : tok (x / 512) (x / 16 % 32) (x % 16) = x := by unfold tok; omega
theorem nI_inj {a b : Nat} (ha : a < 2 ^ 31) (hb : b < 2 ^ 31) (h : nI a = nI b) : a = b := (nI_eq ha hb).mp h
theorem nI_ne {a b : Nat} (ha : a < 2 ^ 31) (hb : b < 2 ^ 31) (h : a ≠ b) : ¬ nI a = nI b := fun e => h (nI_inj ha hb e)
theorem nI_m1 {a : Nat} (ha : a < 2 ^ 31) : ¬ nI a = -1 := fun e => by
  have := congrArg Int32.toInt e
  rw [nI_toInt ha] at this
  have e2 : (-1 : Int32).toInt = -1 := by decide
  omega
theorem nI_m4 {a : Nat} (ha : a < 2 ^ 31) : ¬ nI a = -4 := fun e => by
  have := congrArg Int32.toInt e
  rw [nI_toInt ha] at this
  have e2 : (-4 : Int32).toInt = -4 := by decide
  omega
section nRules
variable {M : pMD} {τ : Nat × Nat} {Q : Option Value → pW → Prop} {k n pc x y : Nat} {ls : List (Nat × Value)} {rest : List Value} {w : pW}
theorem g_nadd (hd : decode M.2.1 pc = .ok (.iadd, 1)) (kk : pG M τ Q k n (pc + 1) ls (.int (nI (x + y)) :: rest) w) : pG M τ Q k n pc ls (.int (nI y) :: .int (nI x) :: rest) w := g_iadd hd (by rw [nI_add]; exact kk)
theorem g_nsub (hd : decode M.2.1 pc = .ok (.isub, 1)) (h : y ≤ x) (kk : pG M τ Q k n (pc + 1) ls (.int (nI (x - y)) :: rest) w) : pG M τ Q k n pc ls (.int (nI y) :: .int (nI x) :: rest) w := g_isub hd (by rw [pk_sub h]; exact kk)
theorem g_nmul (hd : decode M.2.1 pc = .ok (.imul, 1)) (kk : pG M τ Q k n (pc + 1) ls (.int (nI (x * y)) :: rest) w) : pG M τ Q k n pc ls (.int (nI y) :: .int (nI x) :: rest) w := g_imul hd (by rw [pk_mul]; exact kk)
theorem g_ndiv (hd : decode M.2.1 pc = .ok (.idiv, 1)) (hx : x < 2 ^ 31) (h0 : 0 < y) (hy : y < 2 ^ 31) (kk : pG M τ Q k n (pc + 1) ls (.int (nI (x / y)) :: rest) w) : pG M τ Q k n pc ls (.int (nI y) :: .int (nI x) :: rest) w := g_idiv hd (nI_ne0 h0 hy) (by rw [pk_div hx h0 hy]; exact kk)
theorem g_nrem (hd : decode M.2.1 pc = .ok (.irem, 1)) (hx : x < 2 ^ 31) (h0 : 0 < y) (hy : y < 2 ^ 31) (kk : pG M τ Q k n (pc + 1) ls (.int (nI (x % y)) :: rest) w) : pG M τ Q k n pc ls (.int (nI y) :: .int (nI x) :: rest) w := g_irem hd (nI_ne0 h0 hy) (by rw [pk_rem hx h0 hy]; exact kk)
theorem nI_inc (x d : Nat) : nI x + Int32.ofInt d = nI (x + d) := by
  rw [← nI_add]
  rfl
theorem g_niinc {z d : Nat} (ls2 : List (Nat × Value)) (hd : decode M.2.1 pc = .ok (.iinc z d, 3)) (hk : ls.lookup z = some (.int (nI x))) (hn : z < M.2.2.1) (hs : (z, Value.int (nI (x + d))) :: ls.filter (fun q => !(q.1 == z) && !(q.1 + 1 == z && q.2.category == 2)) = ls2) (kk : pG M τ Q k n (pc + 3) ls2 rest w) : pG M τ Q k n pc ls rest w := g_iinc ls2 hd hk (nI_inc x d) hn hs kk
theorem g_nicmp_eq {off : Int} {tgt : Nat} (hd : decode M.2.1 pc = .ok (.if_icmp .eq off, 3)) (ht : (pc : Int) + off = (tgt : Int)) (hx : x < 2 ^ 31) (hy : y < 2 ^ 31) (kt : x = y → pG M τ Q k n tgt ls rest w) (kf : x ≠ y → pG M τ Q k n (pc + 3) ls rest w) : pG M τ Q k n pc ls (.int (nI y) :: .int (nI x) :: rest) w := g_icmp_eq hd ht (fun h => kt ((nI_eq hx hy).mp h)) (fun h => kf (fun e => h ((nI_eq hx hy).mpr e)))
theorem g_nicmp_ne {off : Int} {tgt : Nat} (hd : decode M.2.1 pc = .ok (.if_icmp .ne off, 3)) (ht : (pc : Int) + off = (tgt : Int)) (hx : x < 2 ^ 31) (hy : y < 2 ^ 31) (kt : x ≠ y → pG M τ Q k n tgt ls rest w) (kf : x = y → pG M τ Q k n (pc + 3) ls rest w) : pG M τ Q k n pc ls (.int (nI y) :: .int (nI x) :: rest) w := g_icmp_ne hd ht (fun h => kt (fun e => h ((nI_eq hx hy).mpr e))) (fun h => kf ((nI_eq hx hy).mp h))
theorem g_nicmp_lt {off : Int} {tgt : Nat} (hd : decode M.2.1 pc = .ok (.if_icmp .lt off, 3)) (ht : (pc : Int) + off = (tgt : Int)) (hx : x < 2 ^ 31) (hy : y < 2 ^ 31) (kt : x < y → pG M τ Q k n tgt ls rest w) (kf : y ≤ x → pG M τ Q k n (pc + 3) ls rest w) : pG M τ Q k n pc ls (.int (nI y) :: .int (nI x) :: rest) w := g_icmp_lt hd ht (fun h => kt ((nI_ltI hx hy).mp h)) (fun h => kf (Nat.not_lt.mp (fun e => h ((nI_ltI hx hy).mpr e))))
theorem g_nicmp_ge {off : Int} {tgt : Nat} (hd : decode M.2.1 pc = .ok (.if_icmp .ge off, 3)) (ht : (pc : Int) + off = (tgt : Int)) (hx : x < 2 ^ 31) (hy : y < 2 ^ 31) (kt : y ≤ x → pG M τ Q k n tgt ls rest w) (kf : x < y → pG M τ Q k n (pc + 3) ls rest w) : pG M τ Q k n pc ls (.int (nI y) :: .int (nI x) :: rest) w := g_icmp_ge hd ht (fun h => kt ((nI_leI hy hx).mp h)) (fun h => kf (Nat.not_le.mp (fun e => h ((nI_leI hy hx).mpr e))))
theorem g_nicmp_gt {off : Int} {tgt : Nat} (hd : decode M.2.1 pc = .ok (.if_icmp .gt off, 3)) (ht : (pc : Int) + off = (tgt : Int)) (hx : x < 2 ^ 31) (hy : y < 2 ^ 31) (kt : y < x → pG M τ Q k n tgt ls rest w) (kf : x ≤ y → pG M τ Q k n (pc + 3) ls rest w) : pG M τ Q k n pc ls (.int (nI y) :: .int (nI x) :: rest) w := g_icmp_gt hd ht (fun h => kt ((nI_ltI hy hx).mp h)) (fun h => kf (Nat.not_lt.mp (fun e => h ((nI_ltI hy hx).mpr e))))
theorem g_nicmp_le {off : Int} {tgt : Nat} (hd : decode M.2.1 pc = .ok (.if_icmp .le off, 3)) (ht : (pc : Int) + off = (tgt : Int)) (hx : x < 2 ^ 31) (hy : y < 2 ^ 31) (kt : x ≤ y → pG M τ Q k n tgt ls rest w) (kf : y < x → pG M τ Q k n (pc + 3) ls rest w) : pG M τ Q k n pc ls (.int (nI y) :: .int (nI x) :: rest) w := g_icmp_le hd ht (fun h => kt ((nI_leI hx hy).mp h)) (fun h => kf (Nat.not_le.mp (fun e => h ((nI_leI hx hy).mpr e))))
theorem g_nif_eq {off : Int} {tgt : Nat} (hd : decode M.2.1 pc = .ok (.ifCond .eq off, 3)) (ht : (pc : Int) + off = (tgt : Int)) (hx : x < 2 ^ 31) (kt : x = 0 → pG M τ Q k n tgt ls rest w) (kf : x ≠ 0 → pG M τ Q k n (pc + 3) ls rest w) : pG M τ Q k n pc ls (.int (nI x) :: rest) w := g_if_eq hd ht (fun h => kt ((nI_eq hx (by decide)).mp h)) (fun h => kf (fun e => h ((nI_eq hx (by decide)).mpr e)))
theorem g_nif_ne {off : Int} {tgt : Nat} (hd : decode M.2.1 pc = .ok (.ifCond .ne off, 3)) (ht : (pc : Int) + off = (tgt : Int)) (hx : x < 2 ^ 31) (kt : x ≠ 0 → pG M τ Q k n tgt ls rest w) (kf : x = 0 → pG M τ Q k n (pc + 3) ls rest w) : pG M τ Q k n pc ls (.int (nI x) :: rest) w := g_if_ne hd ht (fun h => kt (fun e => h ((nI_eq hx (by decide)).mpr e))) (fun h => kf ((nI_eq hx (by decide)).mp h))
theorem g_nif_gt {off : Int} {tgt : Nat} (hd : decode M.2.1 pc = .ok (.ifCond .gt off, 3)) (ht : (pc : Int) + off = (tgt : Int)) (hx : x < 2 ^ 31) (kt : 0 < x → pG M τ Q k n tgt ls rest w) (kf : x = 0 → pG M τ Q k n (pc + 3) ls rest w) : pG M τ Q k n pc ls (.int (nI x) :: rest) w := g_if_gt hd ht (fun h => kt ((nI_ltI (by decide) hx).mp h)) (fun h => kf (Nat.eq_zero_of_not_pos (fun e => h ((nI_ltI (by decide) hx).mpr e))))
theorem g_nif_le {off : Int} {tgt : Nat} (hd : decode M.2.1 pc = .ok (.ifCond .le off, 3)) (ht : (pc : Int) + off = (tgt : Int)) (hx : x < 2 ^ 31) (kt : x = 0 → pG M τ Q k n tgt ls rest w) (kf : 0 < x → pG M τ Q k n (pc + 3) ls rest w) : pG M τ Q k n pc ls (.int (nI x) :: rest) w := g_if_le hd ht (fun h => kt (Nat.le_zero.mp ((nI_leI hx (by decide)).mp h))) (fun h => kf (Nat.not_le.mp (fun e => h ((nI_leI hx (by decide)).mpr e))))
theorem g_nif_lt {off : Int} {tgt : Nat} (hd : decode M.2.1 pc = .ok (.ifCond .lt off, 3)) (ht : (pc : Int) + off = (tgt : Int)) (hx : x < 2 ^ 31) (kf : pG M τ Q k n (pc + 3) ls rest w) : pG M τ Q k n pc ls (.int (nI x) :: rest) w := g_if_lt hd ht (fun h => absurd h (nI_pos hx)) (fun _ => kf)
theorem g_nif_ge {off : Int} {tgt : Nat} (hd : decode M.2.1 pc = .ok (.ifCond .ge off, 3)) (ht : (pc : Int) + off = (tgt : Int)) (hx : x < 2 ^ 31) (kt : pG M τ Q k n tgt ls rest w) : pG M τ Q k n pc ls (.int (nI x) :: rest) w := g_if_ge hd ht (fun _ => kt) (fun h => absurd (nI_pos' hx) h)
end nRules
end
section
/-! Rows of tokens in Polish order; what the class's cells stand for. -/
def Pol : Nat → List Nat → Prop
  | n, [] => n = 0
  | 0, _ :: _ => False
  | n + 1, t :: r => Pol (n + kPt t) r
theorem Pol_cons {n t : Nat} {r : List Nat} (h : Pol n (t :: r)) : ∃ m, n = m + 1 ∧ Pol (m + kPt t) r := by
  cases n with
  | zero => exact h.elim
  | succ m => exact ⟨m, rfl, h⟩
theorem Pol_nil {n : Nat} (h : Pol n []) : n = 0 := h
theorem Pol_0 {r : List Nat} (h : Pol 0 r) : r = [] := by
  cases r with
  | nil => rfl
  | cons t r => exact h.elim
theorem Pol_pos {n : Nat} {r : List Nat} (h : Pol (n + 1) r) : 0 < r.length := by
  cases r with
  | nil => exact absurd h (Nat.succ_ne_zero n)
  | cons t r => exact Nat.succ_pos _
theorem Pol_app : ∀ {r s : List Nat} {n m : Nat}, Pol n r → Pol m s → Pol (n + m) (r ++ s)
  | [], s, n, m, h, g => by
    have e : n = 0 := h
    rw [e, Nat.zero_add]
    exact g
  | t :: r, s, n, m, h, g => by
    obtain ⟨j, rfl, h2⟩ := Pol_cons h
    have := Pol_app h2 g
    show Pol (j + 1 + m) (t :: (r ++ s))
    rw [show j + 1 + m = (j + m) + 1 by omega]
    show Pol (j + m + kPt t) (r ++ s)
    rw [show j + m + kPt t = j + kPt t + m by omega]
    exact this
theorem Pol_split : ∀ {r : List Nat} {n m : Nat}, Pol (n + m) r → ∃ a b, r = a ++ b ∧ Pol n a ∧ Pol m b
  | r, 0, m, h => ⟨[], r, rfl, rfl, by rw [Nat.zero_add] at h; exact h⟩
  | [], n + 1, m, h => by
    have e : n + 1 + m = 0 := h
    omega
  | t :: r, n + 1, m, h => by
    rw [show n + 1 + m = (n + m) + 1 by omega] at h
    have h2 : Pol (n + m + kPt t) r := h
    rw [show n + m + kPt t = (n + kPt t) + m by omega] at h2
    obtain ⟨a, b, e, ha, hb⟩ := Pol_split h2
    exact ⟨t :: a, b, by rw [e]; rfl, ha, hb⟩
/-- a row is no beginning of another -/
theorem Pol_pre : ∀ {r s x y : List Nat} {n : Nat}, Pol n r → Pol n s → r ++ x = s ++ y → r = s ∧ x = y
  | [], s, x, y, n, h, g, e => by
    have e0 : n = 0 := h
    rw [e0] at g
    rw [Pol_0 g] at e ⊢
    exact ⟨rfl, e⟩
  | t :: r, [], x, y, n, h, g, e => by
    have e0 : n = 0 := g
    rw [e0] at h
    exact h.elim
  | t :: r, u :: s, x, y, n, h, g, e => by
    obtain ⟨j, rfl, h2⟩ := Pol_cons h
    have e1 : t = u := by simpa using (List.cons.inj e).1
    have e2 : r ++ x = s ++ y := (List.cons.inj e).2
    subst e1
    obtain ⟨a, b⟩ := Pol_pre h2 g e2
    exact ⟨by rw [a], b⟩
/-- the cells of f from k on hold the row -/
def Seg (f : Nat → Int32) (k : Nat) (row : List Nat) : Prop := ∀ j x, row[j]? = some x → f (k + j) = nI x ∧ x < 4096
theorem Seg_cons {f : Nat → Int32} {k t : Nat} {r : List Nat} (h : Seg f k (t :: r)) : (f k = nI t ∧ t < 4096) ∧ Seg f (k + 1) r := by
  refine ⟨h 0 t rfl, fun j x hj => ?_⟩
  have := h (j + 1) x (by simpa using hj)
  rw [show k + 1 + j = k + (j + 1) by omega]
  exact this
theorem Seg_app {f : Nat → Int32} {k : Nat} {r s : List Nat} (h : Seg f k (r ++ s)) : Seg f k r ∧ Seg f (k + r.length) s := by
  refine ⟨fun j x hj => h j x ?_, fun j x hj => ?_⟩
  · rw [List.getElem?_append_left (List.getElem?_eq_some_iff.mp hj).1]
    exact hj
  · have := h (r.length + j) x (by rw [List.getElem?_append_right (by omega)]; simpa using hj)
    rw [show k + r.length + j = k + (r.length + j) by omega]
    exact this
def fnd {α : Type} [DecidableEq α] (l : List α) (x : α) : Option Nat := l.findIdx? (fun y => decide (y = x))
theorem fnd_some {α : Type} [DecidableEq α] {l : List α} {x : α} {j : Nat} (h : l[j]? = some x) (g : ∀ i, i < j → l[i]? ≠ some x) : fnd l x = some j := by
  unfold fnd
  obtain ⟨hj, e⟩ := List.getElem?_eq_some_iff.mp h
  rw [List.findIdx?_eq_some_iff_getElem]
  refine ⟨hj, by simp [e], fun i hi => ?_⟩
  have := g i hi
  rw [List.getElem?_eq_getElem (by omega)] at this
  simpa using this
theorem fnd_none {α : Type} [DecidableEq α] {l : List α} {x : α} (g : ∀ i, i < l.length → l[i]? ≠ some x) : fnd l x = none := by
  unfold fnd
  rw [List.findIdx?_eq_none_iff]
  intro y hy
  obtain ⟨i, hi⟩ := List.mem_iff_getElem?.mp hy
  have := g i (List.getElem?_eq_some_iff.mp hi).1
  simp only [decide_eq_false_iff_not]
  intro e
  rw [e] at hi
  exact this hi
theorem fnd_at {α : Type} [DecidableEq α] {l : List α} {x : α} {j : Nat} (h : fnd l x = some j) : l[j]? = some x := by
  unfold fnd at h
  rw [List.findIdx?_eq_some_iff_getElem] at h
  obtain ⟨hj, e, -⟩ := h
  rw [List.getElem?_eq_getElem hj]
  simpa using e
theorem fnd_not {α : Type} [DecidableEq α] {l : List α} {x : α} (h : fnd l x = none) : x ∉ l := by
  unfold fnd at h
  rw [List.findIdx?_eq_none_iff] at h
  intro hx
  have := h x hx
  simp at this
/-- an int names one of n things -/
def ixB (x : Int32) (n : Nat) : Bool := decide (0 ≤ x.toInt) && decide (x.toInt < (n : Int))
theorem ixB_of {x : Int32} {n : Nat} (h : ixB x n = true) (hn : n < 2 ^ 31) : ∃ j, j < n ∧ x = nI j := by
  simp only [ixB, Bool.and_eq_true, decide_eq_true_eq] at h
  exact vp_in_of (vp_in_iff.mpr h) hn
theorem ixB_nI {j n : Nat} (hj : j < 2 ^ 31) : ixB (nI j) n = decide (j < n) := by
  unfold ixB
  rw [nI_toInt hj]
  simp
theorem ixB_neg {x : Int32} {n : Nat} (h : x < 0) : ixB x n = false := by
  have := Int32.lt_iff_toInt_lt.mp h
  simp only [Int32.toInt_zero] at this
  simp [ixB]
  omega
theorem ixB_big {x : Int32} {n : Nat} (hn : n < 2 ^ 31) (h : nI n ≤ x) : ixB x n = false := by
  have := Int32.le_iff_toInt_le.mp h
  rw [nI_toInt hn] at this
  simp [ixB]
  omega
theorem ixB_in {x : Int32} {n : Nat} (hn : n < 2 ^ 31) (h0 : ¬ x < 0) (h : ¬ nI n ≤ x) : ixB x n = true := by
  have h1 : ¬ x.toInt < 0 := fun e => h0 (Int32.lt_iff_toInt_lt.mpr (by rw [Int32.toInt_zero]; exact e))
  have h2 : ¬ (n : Int) ≤ x.toInt := fun e => h (Int32.le_iff_toInt_le.mpr (by rw [nI_toInt hn]; exact e))
  simp [ixB]
  omega
/-- the types: the arrows, from number 3 on -/
def XT (Ty : List (Nat × Nat)) (i : Nat → Int32) (r : Nat → Nat → Int32) : Prop := i 0 = nI (3 + Ty.length) ∧ Ty.length ≤ 13 ∧ (∀ j, j < 3 → r 0 j = -1) ∧ ∀ j p, Ty[j]? = some p → (r 0 (3 + j) = nI p.1 ∧ r 1 (3 + j) = nI p.2) ∧ p.1 < 16 ∧ p.2 < 16
/-- the kept terms -/
def XS (Tm : List (List Nat)) (i : Nat → Int32) (r : Nat → Nat → Int32) : Prop := i 1 = nI Tm.length ∧ Tm.length ≤ 60 ∧ ∀ t row, Tm[t]? = some row → row.length ≤ 30 ∧ r 3 t = nI row.length ∧ Seg (r 2) (30 * t) row
/-- the draft -/
def XD (d : List Nat) (i : Nat → Int32) (r : Nat → Nat → Int32) : Prop := i 2 = nI d.length ∧ (d.length ≤ 30 → ∀ j x, d[j]? = some x → r 4 j = nI x)
abbrev Thm : Type := Nat × Nat × Nat × Nat × Nat
/-- the theorems: rule, what it named, hypotheses, conclusion -/
def XB (Th : List Thm) (i : Nat → Int32) (r : Nat → Nat → Int32) (L : Nat → Int64) : Prop := i 4 = nI Th.length ∧ Th.length ≤ 40 ∧ ∀ k rl x y h c, Th[k]? = some (rl, x, y, h, c) → (r 7 k = nI rl ∧ rl < 14) ∧ (nbx rl = 2 → r 8 k = nI x ∧ x < k) ∧ (nby rl = 2 → r 9 k = nI y ∧ y < k) ∧ L k = lN h ∧ r 6 k = nI c
/-- all of the class's cells -/
def XI (Ty : List (Nat × Nat)) (Tm : List (List Nat)) (Th : List Thm) (d : List Nat) (i : Nat → Int32) (r : Nat → Nat → Int32) (L : Nat → Int64) : Prop := XT Ty i r ∧ XS Tm i r ∧ XD d i r ∧ XB Th i r L
theorem up_s {α : Type} {f : Nat → α} {k : Nat} {v : α} : va_up f k v k = v := if_pos rfl
theorem up_n {α : Type} {f : Nat → α} {k j : Nat} {v : α} (h : j ≠ k) : va_up f k v j = f j := if_neg h
end
section
/-! More of rows: bounds, agreement; the draft's neighbours. -/
theorem Pol_le : ∀ {r : List Nat} {n : Nat}, Pol n r → n ≤ r.length
  | [], n, h => Nat.le_of_eq h
  | t :: r, n, h => by
    obtain ⟨m, rfl, h2⟩ := Pol_cons h
    have := Pol_le h2
    simp
    omega
theorem nI_opn (m p : Nat) : nI (m + 1) + (nI p - nI 1) = nI (m + p) := by
  rw [nI_succ, show nI 1 = 1 from rfl, Int32.sub_eq_add_neg, Int32.add_comm (nI p) (-1), ← Int32.add_assoc, Int32.add_assoc (nI m) 1 (-1), show (1 : Int32) + (-1) = 0 from rfl, Int32.add_zero, nI_add]
theorem take_agree {R S : List Nat} {z : Nat} (hz : z ≤ R.length) (hz2 : z ≤ S.length) (ag : ∀ y, y < z → R[y]? = S[y]?) : R.take z = S.take z := by
  apply List.ext_getElem?
  intro y
  by_cases h : y < z
  · rw [List.getElem?_take_of_lt h, List.getElem?_take_of_lt h]
    exact ag y h
  · rw [List.getElem?_eq_none (by simp; omega), List.getElem?_eq_none (by simp; omega)]
theorem Pol_agree {R S : List Nat} {n z : Nat} (h1 : Pol n R) (h2 : Pol n S) (hz : z < R.length) (ag : ∀ y, y < z → R[y]? = S[y]?) : z < S.length := by
  rcases Nat.lt_or_ge z S.length with h | h
  · exact h
  · exfalso
    have e := take_agree (R := R) (S := S) (z := S.length) (by omega) (Nat.le_refl _) (fun y hy => ag y (by omega))
    rw [List.take_length] at e
    have e2 : R ++ [] = S ++ R.drop S.length := by
      rw [List.append_nil]
      conv => lhs; rw [← List.take_append_drop S.length R]
      rw [e]
    have := (Pol_pre h1 h2 e2).1
    rw [this] at hz
    omega
theorem Pol_same {R S : List Nat} {n : Nat} (h1 : Pol n R) (h2 : Pol n S) (ag : ∀ y, y < R.length → R[y]? = S[y]?) : R = S := by
  rcases Nat.lt_or_ge S.length R.length with h | h
  · exact absurd (Pol_agree h1 h2 h (fun y hy => ag y (by omega))) (by omega)
  · have e := take_agree (R := R) (S := S) (z := R.length) (Nat.le_refl _) h ag
    rw [List.take_length] at e
    have e2 : R ++ S.drop R.length = S ++ [] := by
      rw [List.append_nil]
      conv => rhs; rw [← List.take_append_drop R.length S]
      rw [← e]
    exact (Pol_pre h1 h2 e2).1
/-- only the draft's row and length have changed -/
def DK (i : Nat → Int32) (r : Nat → Nat → Int32) (i2 : Nat → Int32) (r2 : Nat → Nat → Int32) : Prop := (∀ j, j ≠ 2 → i2 j = i j) ∧ ∀ j, j ≠ 4 → r2 j = r j
theorem DK.rf {i : Nat → Int32} {r : Nat → Nat → Int32} : DK i r i r := ⟨fun _ _ => rfl, fun _ _ => rfl⟩
theorem DK.tr {i i2 i3 : Nat → Int32} {r r2 r3 : Nat → Nat → Int32} (h : DK i r i2 r2) (g : DK i2 r2 i3 r3) : DK i r i3 r3 := ⟨fun j hj => (g.1 j hj).trans (h.1 j hj), fun j hj => (g.2 j hj).trans (h.2 j hj)⟩
/-- only the draft's walk has changed -/
def WKp (i : Nat → Int32) (r : Nat → Nat → Int32) (i2 : Nat → Int32) (r2 : Nat → Nat → Int32) : Prop := (∀ j, j ≠ 3 → i2 j = i j) ∧ ∀ j, j ≠ 5 → r2 j = r j
/-- only the draft has changed -/
def DW (i : Nat → Int32) (r : Nat → Nat → Int32) (i2 : Nat → Int32) (r2 : Nat → Nat → Int32) : Prop := (∀ j, j ≠ 2 → j ≠ 3 → i2 j = i j) ∧ ∀ j, j ≠ 4 → j ≠ 5 → r2 j = r j
theorem DW.rf {i : Nat → Int32} {r : Nat → Nat → Int32} : DW i r i r := ⟨fun _ _ _ => rfl, fun _ _ _ => rfl⟩
theorem DW.tr {i i2 i3 : Nat → Int32} {r r2 r3 : Nat → Nat → Int32} (h : DW i r i2 r2) (g : DW i2 r2 i3 r3) : DW i r i3 r3 := ⟨fun j h1 h2 => (g.1 j h1 h2).trans (h.1 j h1 h2), fun j h1 h2 => (g.2 j h1 h2).trans (h.2 j h1 h2)⟩
theorem DK.w {i i2 : Nat → Int32} {r r2 : Nat → Nat → Int32} (h : DK i r i2 r2) : DW i r i2 r2 := ⟨fun j h1 _ => h.1 j h1, fun j h1 _ => h.2 j h1⟩
theorem WKp.w {i i2 : Nat → Int32} {r r2 : Nat → Nat → Int32} (h : WKp i r i2 r2) : DW i r i2 r2 := ⟨fun j _ h1 => h.1 j h1, fun j _ h1 => h.2 j h1⟩
theorem XD_add {d : List Nat} {i i2 : Nat → Int32} {r r2 : Nat → Nat → Int32} {x : Nat} (h : XD d i r) (hi : i2 2 = nI (d.length + 1)) (hr : d.length < 30 → r2 4 = upd (r 4) d.length (nI x)) : XD (d ++ [x]) i2 r2 := by
  refine ⟨by rw [hi]; simp, fun hl j y hj => ?_⟩
  have hl : d.length < 30 := by simp at hl; omega
  rw [hr hl]
  by_cases c : j < d.length
  · rw [List.getElem?_append_left c] at hj
    rw [pk_un (by omega)]
    exact h.2 (by omega) j y hj
  · rw [List.getElem?_append_right (by omega)] at hj
    have hz : j - d.length < 1 := (List.getElem?_eq_some_iff.mp hj).1
    have hj2 : j = d.length := by omega
    subst hj2
    simp at hj
    rw [pk_us, hj]
theorem XD.mv {d : List Nat} {i i2 : Nat → Int32} {r r2 : Nat → Nat → Int32} (h : XD d i r) (hi : i2 2 = i 2) (hr : r2 4 = r 4) : XD d i2 r2 := ⟨by rw [hi]; exact h.1, fun hl j x hj => by rw [hr]; exact h.2 hl j x hj⟩
/-- the walk's stack: the depths of the parts to come, the next first -/
def WK (s : List Nat) (i : Nat → Int32) (r : Nat → Nat → Int32) : Prop := i 3 = nI s.length ∧ s.length ≤ 30 ∧ ∀ j x, s[j]? = some x → r 5 (s.length - 1 - j) = nI x
theorem WK.mv {s : List Nat} {i i2 : Nat → Int32} {r r2 : Nat → Nat → Int32} (h : WK s i r) (hi : i2 3 = i 3) (hr : r2 5 = r 5) : WK s i2 r2 := ⟨by rw [hi]; exact h.1, h.2.1, fun j x hj => by rw [hr]; exact h.2.2 j x hj⟩
theorem WK.push {s : List Nat} {i i2 : Nat → Int32} {r r2 : Nat → Nat → Int32} {x : Nat} (h : WK s i r) (hl : s.length < 30) (hi : i2 3 = nI (s.length + 1)) (hr : r2 5 = upd (r 5) s.length (nI x)) : WK (x :: s) i2 r2 := by
  refine ⟨by rw [hi]; rfl, by simp; omega, fun j y hj => ?_⟩
  rw [hr]
  cases j with
  | zero =>
    simp at hj ⊢
    rw [pk_us, hj]
  | succ j =>
    have hj2 : s[j]? = some y := by simpa using hj
    have hlt := (List.getElem?_eq_some_iff.mp hj2).1
    have := h.2.2 j y hj2
    simp only [List.length_cons]
    rw [pk_un (by omega), show s.length + 1 - 1 - (j + 1) = s.length - 1 - j by omega]
    exact this
theorem WK.pop {s : List Nat} {i i2 : Nat → Int32} {r r2 : Nat → Nat → Int32} {x : Nat} (h : WK (x :: s) i r) (hi : i2 3 = nI s.length) (hr : r2 5 = r 5) : WK s i2 r2 ∧ r 5 s.length = nI x := by
  refine ⟨⟨hi, by have := h.2.1; simp at this; omega, fun j y hj => ?_⟩, ?_⟩
  · have := h.2.2 (j + 1) y (by simpa using hj)
    have hlt := (List.getElem?_eq_some_iff.mp hj).1
    rw [hr]
    simp only [List.length_cons] at this
    rw [show s.length + 1 - 1 - (j + 1) = s.length - 1 - j by omega] at this
    exact this
  · have := h.2.2 0 x rfl
    simpa using this
def nxt (x d : Nat) (s : List Nat) : List Nat := List.replicate (kPt x) (if kBd x then d + 1 else d) ++ s
theorem kPt_le (x : Nat) : kPt x ≤ 2 := by unfold kPt; split <;> (try split) <;> omega
/-- the body of a binder, the variable v replaced by places -/
def cls (v : Nat) : List Nat → List Nat → List Nat
  | _, [] => []
  | [], _ :: _ => []
  | d :: s, t :: r => (if t = v then tok 2 d (v % 16) else t) :: cls v (nxt t d s) r
/-- the body of a binder, its places replaced by the row f -/
def fil (f : List Nat) : List Nat → List Nat → List Nat
  | _, [] => []
  | [], _ :: _ => []
  | d :: s, t :: r => (if t / 512 = 2 ∧ t / 16 % 32 = d then f else [t]) ++ fil f (nxt t d s) r
def rpl (v : Nat) (f : List Nat) : List Nat → List Nat
  | [] => []
  | t :: r => (if t = v then f else [t]) ++ rpl v f r
end
section
/-! Token: contracts in any world. By wip/whole/m_token.py -/
set_option maxRecDepth 100000 in
set_option maxHeartbeats 4000000 in
theorem c_O_of {τ : Nat × Nat} {w : pW} (t i y : Nat) (ht : t < 8) (hi : i < 32) (hy : y < 16) : pC m_O_of τ [.int (nI t), .int (nI i), .int (nI y)] w (fun r w2 => r = some (.int (nI (tok t i y))) ∧ w2 = w) := by
  refine pC.of rfl (Nat.le_of_ble_eq_true rfl) ?_
  show pG m_O_of τ _ 0 0 0 [(0, _), (1, _), (2, _)] [] _
  refine g_iload_n (pc := 0) d_O_of_0 rfl ?_
  refine g_bipush (pc := 1) (v := nI 9) d_O_of_1 (by decide) ?_
  refine g_ishl (pc := 3) d_O_of_3 ?_
  refine g_iload_n (pc := 4) d_O_of_4 rfl ?_
  refine g_iconst (pc := 5) (v := nI 4) d_O_of_5 (by decide) ?_
  refine g_ishl (pc := 6) d_O_of_6 ?_
  refine g_ior (pc := 7) d_O_of_7 ?_
  refine g_iload_n (pc := 8) d_O_of_8 rfl ?_
  refine g_ior (pc := 9) d_O_of_9 ?_
  refine g_iret (pc := 10) d_O_of_10 rfl (Nat.le_refl _) (Nat.le_refl _) ?_
  exact ⟨by rw [tok_or t ht i hi y hy], rfl⟩
set_option maxRecDepth 100000 in
set_option maxHeartbeats 4000000 in
theorem c_O_tag {τ : Nat × Nat} {w : pW} (x : Nat) (hx : x < 4096) : pC m_O_tag τ [.int (nI x)] w (fun r w2 => r = some (.int (nI (x / 512))) ∧ w2 = w) := by
  refine pC.of rfl (Nat.le_of_ble_eq_true rfl) ?_
  show pG m_O_tag τ _ 0 0 0 [(0, _)] [] _
  refine g_iload_n (pc := 0) d_O_tag_0 rfl ?_
  refine g_bipush (pc := 1) (v := nI 9) d_O_tag_1 (by decide) ?_
  refine g_ishr (pc := 3) d_O_tag_3 ?_
  refine g_iret (pc := 4) d_O_tag_4 rfl (Nat.le_refl _) (Nat.le_refl _) ?_
  exact ⟨by rw [k_tag hx], rfl⟩
set_option maxRecDepth 100000 in
set_option maxHeartbeats 4000000 in
theorem c_O_info {τ : Nat × Nat} {w : pW} (x : Nat) (hx : x < 4096) : pC m_O_info τ [.int (nI x)] w (fun r w2 => r = some (.int (nI (x / 16 % 32))) ∧ w2 = w) := by
  refine pC.of rfl (Nat.le_of_ble_eq_true rfl) ?_
  show pG m_O_info τ _ 0 0 0 [(0, _)] [] _
  refine g_iload_n (pc := 0) d_O_info_0 rfl ?_
  refine g_iconst (pc := 1) (v := nI 4) d_O_info_1 (by decide) ?_
  refine g_ishr (pc := 2) d_O_info_2 ?_
  refine g_bipush (pc := 3) (v := nI 31) d_O_info_3 (by decide) ?_
  refine g_iand (pc := 5) d_O_info_5 ?_
  refine g_iret (pc := 6) d_O_info_6 rfl (Nat.le_refl _) (Nat.le_refl _) ?_
  exact ⟨by rw [k_info hx], rfl⟩
set_option maxRecDepth 100000 in
set_option maxHeartbeats 4000000 in
theorem c_O_type {τ : Nat × Nat} {w : pW} (x : Nat) (hx : x < 4096) : pC m_O_type τ [.int (nI x)] w (fun r w2 => r = some (.int (nI (x % 16))) ∧ w2 = w) := by
  refine pC.of rfl (Nat.le_of_ble_eq_true rfl) ?_
  show pG m_O_type τ _ 0 0 0 [(0, _)] [] _
  refine g_iload_n (pc := 0) d_O_type_0 rfl ?_
  refine g_bipush (pc := 1) (v := nI 15) d_O_type_1 (by decide) ?_
  refine g_iand (pc := 3) d_O_type_3 ?_
  refine g_iret (pc := 4) d_O_type_4 rfl (Nat.le_refl _) (Nat.le_refl _) ?_
  exact ⟨by rw [k_type hx], rfl⟩
set_option maxRecDepth 100000 in
set_option maxHeartbeats 4000000 in
theorem c_O_binds {τ : Nat × Nat} {w : pW} (x : Nat) (hx : x < 4096) : pC m_O_binds τ [.int (nI x)] w (fun r w2 => r = some (.int (bI (kBd x))) ∧ w2 = w) := by
  refine pC.of rfl (Nat.le_of_ble_eq_true rfl) ?_
  show pG m_O_binds τ _ 0 0 0 [(0, _)] [] _
  refine g_iload_n (pc := 0) d_O_binds_0 rfl ?_
  refine g_bipush (pc := 1) (v := nI 9) d_O_binds_1 (by decide) ?_
  refine g_ishr (pc := 3) d_O_binds_3 ?_
  refine g_topi (nI (x / 512)) (k_tag hx) ?_
  refine g_istore_n (pc := 4) [(1, _), (0, _)] d_O_binds_4 (by decide) rfl ?_
  refine g_iload_n (pc := 5) d_O_binds_5 rfl ?_
  refine g_iconst (pc := 6) (v := nI 3) d_O_binds_6 (by decide) ?_
  refine g_nicmp_eq (pc := 7) (tgt := 15) d_O_binds_7 (by decide) (by omega) (by omega) (fun h7 => ?_) (fun h7 => ?_)
  · refine g_iconst (pc := 15) (v := nI 1) d_O_binds_15 (by decide) ?_
    refine g_goto (pc := 16) (tgt := 20) d_O_binds_16 (by decide) ?_
    refine g_zret (pc := 20) d_O_binds_20 rfl (by decide) (Nat.le_refl _) (Nat.le_refl _) ?_
    refine ⟨congrArg (fun v => some (Value.int v)) ?_, rfl⟩
    simp_all [bI, kBd]
  · refine g_iload_n (pc := 10) d_O_binds_10 rfl ?_
    refine g_iconst (pc := 11) (v := nI 4) d_O_binds_11 (by decide) ?_
    refine g_nicmp_ne (pc := 12) (tgt := 19) d_O_binds_12 (by decide) (by omega) (by omega) (fun h12 => ?_) (fun h12 => ?_)
    · refine g_iconst (pc := 19) (v := nI 0) d_O_binds_19 (by decide) ?_
      refine g_zret (pc := 20) d_O_binds_20 rfl (by decide) (Nat.le_refl _) (Nat.le_refl _) ?_
      refine ⟨congrArg (fun v => some (Value.int v)) ?_, rfl⟩
      simp_all [bI, kBd]
    · refine g_iconst (pc := 15) (v := nI 1) d_O_binds_15 (by decide) ?_
      refine g_goto (pc := 16) (tgt := 20) d_O_binds_16 (by decide) ?_
      refine g_zret (pc := 20) d_O_binds_20 rfl (by decide) (Nat.le_refl _) (Nat.le_refl _) ?_
      refine ⟨congrArg (fun v => some (Value.int v)) ?_, rfl⟩
      simp_all [bI, kBd]
set_option maxRecDepth 100000 in
set_option maxHeartbeats 4000000 in
theorem c_O_parts {τ : Nat × Nat} {w : pW} (x : Nat) (hx : x < 4096) : pC m_O_parts τ [.int (nI x)] w (fun r w2 => r = some (.int (nI (kPt x))) ∧ w2 = w) := by
  refine pC.of rfl (Nat.le_of_ble_eq_true rfl) ?_
  show pG m_O_parts τ _ 0 0 0 [(0, _)] [] _
  refine g_iload_n (pc := 0) d_O_parts_0 rfl ?_
  refine g_bipush (pc := 1) (v := nI 9) d_O_parts_1 (by decide) ?_
  refine g_ishr (pc := 3) d_O_parts_3 ?_
  refine g_topi (nI (x / 512)) (k_tag hx) ?_
  refine g_istore_n (pc := 4) [(1, _), (0, _)] d_O_parts_4 (by decide) rfl ?_
  refine g_iload_n (pc := 5) d_O_parts_5 rfl ?_
  refine g_iconst (pc := 6) (v := nI 3) d_O_parts_6 (by decide) ?_
  refine g_nicmp_ge (pc := 7) (tgt := 12) d_O_parts_7 (by decide) (by omega) (by omega) (fun h7 => ?_) (fun h7 => ?_)
  · refine g_iload_n (pc := 12) d_O_parts_12 rfl ?_
    refine g_iconst (pc := 13) (v := nI 5) d_O_parts_13 (by decide) ?_
    refine g_nicmp_ge (pc := 14) (tgt := 21) d_O_parts_14 (by decide) (by omega) (by omega) (fun h14 => ?_) (fun h14 => ?_)
    · refine g_iconst (pc := 21) (v := nI 2) d_O_parts_21 (by decide) ?_
      refine g_iret (pc := 22) d_O_parts_22 rfl (Nat.le_refl _) (Nat.le_refl _) ?_
      refine ⟨congrArg (fun v => some (Value.int v)) ?_, rfl⟩
      unfold kPt
      refine congrArg nI ?_
      all_goals (repeat' split) <;> omega
    · refine g_iconst (pc := 17) (v := nI 1) d_O_parts_17 (by decide) ?_
      refine g_goto (pc := 18) (tgt := 22) d_O_parts_18 (by decide) ?_
      refine g_iret (pc := 22) d_O_parts_22 rfl (Nat.le_refl _) (Nat.le_refl _) ?_
      refine ⟨congrArg (fun v => some (Value.int v)) ?_, rfl⟩
      unfold kPt
      refine congrArg nI ?_
      all_goals (repeat' split) <;> omega
  · refine g_iconst (pc := 10) (v := nI 0) d_O_parts_10 (by decide) ?_
    refine g_iret (pc := 11) d_O_parts_11 rfl (Nat.le_refl _) (Nat.le_refl _) ?_
    refine ⟨congrArg (fun v => some (Value.int v)) ?_, rfl⟩
    unfold kPt
    refine congrArg nI ?_
    all_goals (repeat' split) <;> omega
def kLt (x : Nat) : Nat := if x / 512 = 0 then 97 + x / 16 % 32 else if x / 512 = 1 then 48 + x / 16 % 32 else if x / 512 = 2 then 122 - x / 16 % 32 else if x / 512 = 3 then 47 else if x / 512 = 4 then 33 else if x / 512 = 5 then 64 else if x / 512 = 6 then 62 else 61
def kSt (x : Nat) : Bool := decide (x / 512 = 0) || kBd x
def kTl (x : Nat) : Nat := 65 + (if kBd x then x / 16 % 32 else x % 16)
set_option maxRecDepth 100000 in
set_option maxHeartbeats 4000000 in
theorem c_O_letter {τ : Nat × Nat} {w : pW} (x : Nat) (hx : x < 4096) : pC m_O_letter τ [.int (nI x)] w (fun r w2 => r = some (.int (nI (kLt x))) ∧ w2 = w) := by
  refine pC.of rfl (Nat.le_of_ble_eq_true rfl) ?_
  show pG m_O_letter τ _ 0 0 0 [(0, _)] [] _
  refine g_iload_n (pc := 0) d_O_letter_0 rfl ?_
  refine g_callS (M' := m_O_tag) (pc := 1) d_O_letter_1 lm_O_11 (c_O_tag x hx) v_O_tag rfl (by decide) rfl (Nat.le_of_ble_eq_true rfl) ?_
  rintro _ _ ⟨rfl, rfl⟩
  show pG m_O_letter τ _ 0 0 4 _ (.int _ :: _) _
  have hc : x / 512 < 7 ∨ 7 ≤ x / 512 := Nat.lt_or_ge _ _
  rcases hc with hc | hc
  · have hi7 : ∀ y, y < 7 → (nI y).toInt = y := by decide
    have hz := hi7 _ hc
    generalize hy : x / 512 = y at hc hz ⊢
    by_cases e0 : y = 0
    · subst e0
      refine g_tableIn (pc := 4) (tgt := 48) d_O_letter_4 (by decide) (by decide) rfl (by decide) ?_
      refine g_bipush (pc := 48) (v := nI 97) d_O_letter_48 (by decide) ?_
      refine g_iload_n (pc := 50) d_O_letter_50 rfl ?_
      refine g_callS (M' := m_O_info) (pc := 51) d_O_letter_51 lm_O_15 (c_O_info x hx) v_O_info rfl (by decide) rfl (Nat.le_of_ble_eq_true rfl) ?_
      rintro _ _ ⟨rfl, rfl⟩
      show pG m_O_letter τ _ 0 0 54 _ (.int _ :: _) _
      refine g_nadd (pc := 54) d_O_letter_54 ?_
      refine g_iret (pc := 55) d_O_letter_55 rfl (Nat.le_refl _) (Nat.le_refl _) ?_
      refine ⟨congrArg (fun v => some (Value.int v)) ?_, rfl⟩
      refine congrArg nI ?_
      simp only [kLt]
      first | (simp_all; done) | all_goals (repeat' split) <;> omega
    by_cases e1 : y = 1
    · subst e1
      refine g_tableIn (pc := 4) (tgt := 56) d_O_letter_4 (by decide) (by decide) rfl (by decide) ?_
      refine g_bipush (pc := 56) (v := nI 48) d_O_letter_56 (by decide) ?_
      refine g_iload_n (pc := 58) d_O_letter_58 rfl ?_
      refine g_callS (M' := m_O_info) (pc := 59) d_O_letter_59 lm_O_15 (c_O_info x hx) v_O_info rfl (by decide) rfl (Nat.le_of_ble_eq_true rfl) ?_
      rintro _ _ ⟨rfl, rfl⟩
      show pG m_O_letter τ _ 0 0 62 _ (.int _ :: _) _
      refine g_nadd (pc := 62) d_O_letter_62 ?_
      refine g_iret (pc := 63) d_O_letter_63 rfl (Nat.le_refl _) (Nat.le_refl _) ?_
      refine ⟨congrArg (fun v => some (Value.int v)) ?_, rfl⟩
      refine congrArg nI ?_
      simp only [kLt]
      first | (simp_all; done) | all_goals (repeat' split) <;> omega
    by_cases e2 : y = 2
    · subst e2
      refine g_tableIn (pc := 4) (tgt := 64) d_O_letter_4 (by decide) (by decide) rfl (by decide) ?_
      refine g_bipush (pc := 64) (v := nI 122) d_O_letter_64 (by decide) ?_
      refine g_iload_n (pc := 66) d_O_letter_66 rfl ?_
      refine g_callS (M' := m_O_info) (pc := 67) d_O_letter_67 lm_O_15 (c_O_info x hx) v_O_info rfl (by decide) rfl (Nat.le_of_ble_eq_true rfl) ?_
      rintro _ _ ⟨rfl, rfl⟩
      show pG m_O_letter τ _ 0 0 70 _ (.int _ :: _) _
      refine g_nsub (pc := 70) d_O_letter_70 (by omega) ?_
      refine g_iret (pc := 71) d_O_letter_71 rfl (Nat.le_refl _) (Nat.le_refl _) ?_
      refine ⟨congrArg (fun v => some (Value.int v)) ?_, rfl⟩
      refine congrArg nI ?_
      simp only [kLt]
      first | (simp_all; done) | all_goals (repeat' split) <;> omega
    by_cases e3 : y = 3
    · subst e3
      refine g_tableIn (pc := 4) (tgt := 72) d_O_letter_4 (by decide) (by decide) rfl (by decide) ?_
      refine g_bipush (pc := 72) (v := nI 47) d_O_letter_72 (by decide) ?_
      refine g_iret (pc := 74) d_O_letter_74 rfl (Nat.le_refl _) (Nat.le_refl _) ?_
      refine ⟨congrArg (fun v => some (Value.int v)) ?_, rfl⟩
      refine congrArg nI ?_
      simp only [kLt]
      first | (simp_all; done) | all_goals (repeat' split) <;> omega
    by_cases e4 : y = 4
    · subst e4
      refine g_tableIn (pc := 4) (tgt := 75) d_O_letter_4 (by decide) (by decide) rfl (by decide) ?_
      refine g_bipush (pc := 75) (v := nI 33) d_O_letter_75 (by decide) ?_
      refine g_iret (pc := 77) d_O_letter_77 rfl (Nat.le_refl _) (Nat.le_refl _) ?_
      refine ⟨congrArg (fun v => some (Value.int v)) ?_, rfl⟩
      refine congrArg nI ?_
      simp only [kLt]
      first | (simp_all; done) | all_goals (repeat' split) <;> omega
    by_cases e5 : y = 5
    · subst e5
      refine g_tableIn (pc := 4) (tgt := 78) d_O_letter_4 (by decide) (by decide) rfl (by decide) ?_
      refine g_bipush (pc := 78) (v := nI 64) d_O_letter_78 (by decide) ?_
      refine g_iret (pc := 80) d_O_letter_80 rfl (Nat.le_refl _) (Nat.le_refl _) ?_
      refine ⟨congrArg (fun v => some (Value.int v)) ?_, rfl⟩
      refine congrArg nI ?_
      simp only [kLt]
      first | (simp_all; done) | all_goals (repeat' split) <;> omega
    by_cases e6 : y = 6
    · subst e6
      refine g_tableIn (pc := 4) (tgt := 81) d_O_letter_4 (by decide) (by decide) rfl (by decide) ?_
      refine g_bipush (pc := 81) (v := nI 62) d_O_letter_81 (by decide) ?_
      refine g_iret (pc := 83) d_O_letter_83 rfl (Nat.le_refl _) (Nat.le_refl _) ?_
      refine ⟨congrArg (fun v => some (Value.int v)) ?_, rfl⟩
      refine congrArg nI ?_
      simp only [kLt]
      first | (simp_all; done) | all_goals (repeat' split) <;> omega
    omega
  · refine g_tableOut (pc := 4) (tgt := 84) d_O_letter_4 (Or.inr (by rw [nI_toInt (by omega)]; omega)) (by decide) ?_
    refine g_bipush (pc := 84) (v := nI 61) d_O_letter_84 (by decide) ?_
    refine g_iret (pc := 86) d_O_letter_86 rfl (Nat.le_refl _) (Nat.le_refl _) ?_
    refine ⟨congrArg (fun v => some (Value.int v)) ?_, rfl⟩
    refine congrArg nI ?_
    simp only [kLt]
    first | (simp_all; done) | all_goals (repeat' split) <;> omega
set_option maxRecDepth 100000 in
set_option maxHeartbeats 4000000 in
theorem c_O_showsType {τ : Nat × Nat} {w : pW} (x : Nat) (hx : x < 4096) : pC m_O_showsType τ [.int (nI x)] w (fun r w2 => r = some (.int (bI (kSt x))) ∧ w2 = w) := by
  refine pC.of rfl (Nat.le_of_ble_eq_true rfl) ?_
  show pG m_O_showsType τ _ 0 0 0 [(0, _)] [] _
  refine g_iload_n (pc := 0) d_O_showsType_0 rfl ?_
  refine g_callS (M' := m_O_tag) (pc := 1) d_O_showsType_1 lm_O_11 (c_O_tag x hx) v_O_tag rfl (by decide) rfl (Nat.le_of_ble_eq_true rfl) ?_
  rintro _ _ ⟨rfl, rfl⟩
  show pG m_O_showsType τ _ 0 0 4 _ (.int _ :: _) _
  refine g_nif_eq (pc := 4) (tgt := 14) d_O_showsType_4 (by decide) (by omega) (fun h4 => ?_) (fun h4 => ?_)
  · refine g_iconst (pc := 14) (v := nI 1) d_O_showsType_14 (by decide) ?_
    refine g_goto (pc := 15) (tgt := 19) d_O_showsType_15 (by decide) ?_
    refine g_zret (pc := 19) d_O_showsType_19 rfl (by decide) (Nat.le_refl _) (Nat.le_refl _) ?_
    refine ⟨congrArg (fun v => some (Value.int v)) ?_, rfl⟩
    simp_all [bI, kSt]
    try (intro hh; omega)
  · refine g_iload_n (pc := 7) d_O_showsType_7 rfl ?_
    refine g_callS (M' := m_O_binds) (pc := 8) d_O_showsType_8 lm_O_18 (c_O_binds x hx) v_O_binds rfl (by decide) rfl (Nat.le_of_ble_eq_true rfl) ?_
    rintro _ _ ⟨rfl, rfl⟩
    show pG m_O_showsType τ _ 0 0 11 _ (.int _ :: _) _
    refine g_ifb_eq (pc := 11) (tgt := 18) d_O_showsType_11 (by decide) (fun h11 => ?_) (fun h11 => ?_)
    · refine g_iconst (pc := 18) (v := nI 0) d_O_showsType_18 (by decide) ?_
      refine g_zret (pc := 19) d_O_showsType_19 rfl (by decide) (Nat.le_refl _) (Nat.le_refl _) ?_
      refine ⟨congrArg (fun v => some (Value.int v)) ?_, rfl⟩
      simp_all [bI, kSt]
      try (intro hh; omega)
    · refine g_iconst (pc := 14) (v := nI 1) d_O_showsType_14 (by decide) ?_
      refine g_goto (pc := 15) (tgt := 19) d_O_showsType_15 (by decide) ?_
      refine g_zret (pc := 19) d_O_showsType_19 rfl (by decide) (Nat.le_refl _) (Nat.le_refl _) ?_
      refine ⟨congrArg (fun v => some (Value.int v)) ?_, rfl⟩
      simp_all [bI, kSt]
      try (intro hh; omega)
set_option maxRecDepth 100000 in
set_option maxHeartbeats 4000000 in
theorem c_O_typeLetter {τ : Nat × Nat} {w : pW} (x : Nat) (hx : x < 4096) : pC m_O_typeLetter τ [.int (nI x)] w (fun r w2 => r = some (.int (nI (kTl x))) ∧ w2 = w) := by
  refine pC.of rfl (Nat.le_of_ble_eq_true rfl) ?_
  show pG m_O_typeLetter τ _ 0 0 0 [(0, _)] [] _
  refine g_bipush (pc := 0) (v := nI 65) d_O_typeLetter_0 (by decide) ?_
  refine g_iload_n (pc := 2) d_O_typeLetter_2 rfl ?_
  refine g_callS (M' := m_O_binds) (pc := 3) d_O_typeLetter_3 lm_O_18 (c_O_binds x hx) v_O_binds rfl (by decide) rfl (Nat.le_of_ble_eq_true rfl) ?_
  rintro _ _ ⟨rfl, rfl⟩
  show pG m_O_typeLetter τ _ 0 0 6 _ (.int _ :: _) _
  refine g_ifb_eq (pc := 6) (tgt := 16) d_O_typeLetter_6 (by decide) (fun h6 => ?_) (fun h6 => ?_)
  · refine g_iload_n (pc := 16) d_O_typeLetter_16 rfl ?_
    refine g_callS (M' := m_O_type) (pc := 17) d_O_typeLetter_17 lm_O_22 (c_O_type x hx) v_O_type rfl (by decide) rfl (Nat.le_of_ble_eq_true rfl) ?_
    rintro _ _ ⟨rfl, rfl⟩
    show pG m_O_typeLetter τ _ 0 0 20 _ (.int _ :: _) _
    refine g_nadd (pc := 20) d_O_typeLetter_20 ?_
    refine g_iret (pc := 21) d_O_typeLetter_21 rfl (Nat.le_refl _) (Nat.le_refl _) ?_
    refine ⟨congrArg (fun v => some (Value.int v)) ?_, rfl⟩
    refine congrArg nI ?_
    simp_all [kTl]
  · refine g_iload_n (pc := 9) d_O_typeLetter_9 rfl ?_
    refine g_callS (M' := m_O_info) (pc := 10) d_O_typeLetter_10 lm_O_15 (c_O_info x hx) v_O_info rfl (by decide) rfl (Nat.le_of_ble_eq_true rfl) ?_
    rintro _ _ ⟨rfl, rfl⟩
    show pG m_O_typeLetter τ _ 0 0 13 _ (.int _ :: _) _
    refine g_goto (pc := 13) (tgt := 20) d_O_typeLetter_13 (by decide) ?_
    refine g_nadd (pc := 20) d_O_typeLetter_20 ?_
    refine g_iret (pc := 21) d_O_typeLetter_21 rfl (Nat.le_refl _) (Nat.le_refl _) ?_
    refine ⟨congrArg (fun v => some (Value.int v)) ?_, rfl⟩
    refine congrArg nI ?_
    simp_all [kTl]
end
section
/-! Types: contracts. By wip/whole/m_types.py -/
set_option maxRecDepth 100000 in
set_option maxHeartbeats 4000000 in
theorem c_T_has {τ : Nat × Nat} {a : Nat → Nat} {i : Nat → Int32} {r : Nat → Nat → Int32} {L : Nat → Int64} {wr : pW} (c : Nat) (hc : i 0 = nI c) (hb : c < 2 ^ 31) (x : Int32) : pC m_T_has τ [.ref (a 1), .int x] (wX a i r L ++ wr) (fun rr w2 => rr = some (.int (bI (ixB x c))) ∧ w2 = wX a i r L ++ wr) := by
  refine pC.of rfl (Nat.le_of_ble_eq_true rfl) ?_
  show pG m_T_has τ _ 0 0 0 [(0, _), (1, _)] [] _
  refine g_iload_n (pc := 0) d_T_has_0 rfl ?_
  refine g_if_lt (pc := 1) (tgt := 16) d_T_has_1 (by decide) (fun h1 => ?_) (fun h1 => ?_)
  · refine g_iconst (pc := 16) (v := nI 0) d_T_has_16 (by decide) ?_
    refine g_zret (pc := 17) d_T_has_17 rfl (by decide) (Nat.le_refl _) (Nat.le_refl _) ?_
    refine ⟨congrArg (fun v => some (Value.int v)) ?_, rfl⟩
    first | exact bI_0 (ixB_neg (by assumption)) | exact bI_0 (ixB_big hb (by assumption)) | exact bI_1 (ixB_in hb (by assumption) (by assumption))
  · refine g_iload_n (pc := 4) d_T_has_4 rfl ?_
    refine g_aload_n (pc := 5) d_T_has_5 rfl ?_
    refine gx_T_count (pc := 6) d_T_has_6 lf_T_18 ?_
    rw [hc]
    refine g_icmp_ge (pc := 9) (tgt := 16) d_T_has_9 (by decide) (fun h9 => ?_) (fun h9 => ?_)
    · refine g_iconst (pc := 16) (v := nI 0) d_T_has_16 (by decide) ?_
      refine g_zret (pc := 17) d_T_has_17 rfl (by decide) (Nat.le_refl _) (Nat.le_refl _) ?_
      refine ⟨congrArg (fun v => some (Value.int v)) ?_, rfl⟩
      first | exact bI_0 (ixB_neg (by assumption)) | exact bI_0 (ixB_big hb (by assumption)) | exact bI_1 (ixB_in hb (by assumption) (by assumption))
    · refine g_iconst (pc := 12) (v := nI 1) d_T_has_12 (by decide) ?_
      refine g_goto (pc := 13) (tgt := 17) d_T_has_13 (by decide) ?_
      refine g_zret (pc := 17) d_T_has_17 rfl (by decide) (Nat.le_refl _) (Nat.le_refl _) ?_
      refine ⟨congrArg (fun v => some (Value.int v)) ?_, rfl⟩
      first | exact bI_0 (ixB_neg (by assumption)) | exact bI_0 (ixB_big hb (by assumption)) | exact bI_1 (ixB_in hb (by assumption) (by assumption))
set_option maxRecDepth 100000 in
set_option maxHeartbeats 4000000 in
theorem c_T_count {τ : Nat × Nat} {a : Nat → Nat} {i : Nat → Int32} {r : Nat → Nat → Int32} {L : Nat → Int64} {wr : pW}  : pC m_T_count τ [.ref (a 1)] (wX a i r L ++ wr) (fun rr w2 => rr = some (.int (i 0)) ∧ w2 = wX a i r L ++ wr) := by
  refine pC.of rfl (Nat.le_of_ble_eq_true rfl) ?_
  show pG m_T_count τ _ 0 0 0 [(0, _)] [] _
  refine g_aload_n (pc := 0) d_T_count_0 rfl ?_
  refine gx_T_count (pc := 1) d_T_count_1 lf_T_18 ?_
  refine g_iret (pc := 4) d_T_count_4 rfl (Nat.le_refl _) (Nat.le_refl _) ?_
  exact ⟨rfl, rfl⟩
set_option maxRecDepth 100000 in
set_option maxHeartbeats 4000000 in
theorem c_T_takes {τ : Nat × Nat} {a : Nat → Nat} {i : Nat → Int32} {r : Nat → Nat → Int32} {L : Nat → Int64} {wr : pW} (f x : Nat) (hf : f < 16) : pC m_T_takes τ [.ref (a 1), .int (nI f), .int (nI x)] (wX a i r L ++ wr) (fun rr w2 => rr = some (.int (bI (decide (r 0 f = nI x)))) ∧ w2 = wX a i r L ++ wr) := by
  refine pC.of rfl (Nat.le_of_ble_eq_true rfl) ?_
  show pG m_T_takes τ _ 0 0 0 [(0, _), (1, _), (2, _)] [] _
  refine g_aload_n (pc := 0) d_T_takes_0 rfl ?_
  refine gx_T_from (pc := 1) d_T_takes_1 lf_T_9 ?_
  refine g_iload_n (pc := 4) d_T_takes_4 rfl ?_
  refine glx_T_from (pc := 5) d_T_takes_5 (vp_in_nI hf (by decide)) rfl ?_
  refine g_iload_n (pc := 6) d_T_takes_6 rfl ?_
  refine g_icmp_ne (pc := 7) (tgt := 14) d_T_takes_7 (by decide) (fun h7 => ?_) (fun h7 => ?_)
  · refine g_iconst (pc := 14) (v := nI 0) d_T_takes_14 (by decide) ?_
    refine g_zret (pc := 15) d_T_takes_15 rfl (by decide) (Nat.le_refl _) (Nat.le_refl _) ?_
    refine ⟨congrArg (fun v => some (Value.int v)) ?_, rfl⟩
    rw [nI_clamp (by omega)] at *
    simp_all [bI]
  · refine g_iconst (pc := 10) (v := nI 1) d_T_takes_10 (by decide) ?_
    refine g_goto (pc := 11) (tgt := 15) d_T_takes_11 (by decide) ?_
    refine g_zret (pc := 15) d_T_takes_15 rfl (by decide) (Nat.le_refl _) (Nat.le_refl _) ?_
    refine ⟨congrArg (fun v => some (Value.int v)) ?_, rfl⟩
    rw [nI_clamp (by omega)] at *
    simp_all [bI]
set_option maxRecDepth 100000 in
set_option maxHeartbeats 4000000 in
theorem c_T_result {τ : Nat × Nat} {a : Nat → Nat} {i : Nat → Int32} {r : Nat → Nat → Int32} {L : Nat → Int64} {wr : pW} (f : Nat) (hf : f < 16) : pC m_T_result τ [.ref (a 1), .int (nI f)] (wX a i r L ++ wr) (fun rr w2 => rr = some (.int (r 1 f)) ∧ w2 = wX a i r L ++ wr) := by
  refine pC.of rfl (Nat.le_of_ble_eq_true rfl) ?_
  show pG m_T_result τ _ 0 0 0 [(0, _), (1, _)] [] _
  refine g_aload_n (pc := 0) d_T_result_0 rfl ?_
  refine gx_T_to (pc := 1) d_T_result_1 lf_T_15 ?_
  refine g_iload_n (pc := 4) d_T_result_4 rfl ?_
  refine glx_T_to (pc := 5) d_T_result_5 (vp_in_nI hf (by decide)) rfl ?_
  refine g_iret (pc := 6) d_T_result_6 rfl (Nat.le_refl _) (Nat.le_refl _) ?_
  exact ⟨by rw [nI_clamp (by omega)], rfl⟩
set_option maxRecDepth 100000 in
set_option maxHeartbeats 4000000 in
theorem c_T_cutTo {τ : Nat × Nat} {a : Nat → Nat} {i : Nat → Int32} {r : Nat → Nat → Int32} {L : Nat → Int64} {wr : pW} (x : Int32) : pC m_T_cutTo τ [.ref (a 1), .int x] (wX a i r L ++ wr) (fun rr w2 => rr = none ∧ w2 = wX a (upd i 0 x) r L ++ wr) := by
  refine pC.of rfl (Nat.le_of_ble_eq_true rfl) ?_
  show pG m_T_cutTo τ _ 0 0 0 [(0, _), (1, _)] [] _
  refine g_aload_n (pc := 0) d_T_cutTo_0 rfl ?_
  refine g_iload_n (pc := 1) d_T_cutTo_1 rfl ?_
  refine gx_T_count_p (pc := 2) d_T_cutTo_2 lf_T_18 ?_
  refine g_vret (pc := 5) d_T_cutTo_5 rfl (Nat.le_refl _) (Nat.le_refl _) ?_
  exact ⟨rfl, rfl⟩
def sNum (Ty : List (Nat × Nat)) (l q : Nat) : Int32 × List (Nat × Nat) := match fnd Ty (l, q) with
  | some j => (nI (3 + j), Ty)
  | none => if Ty.length = 13 then (-4, Ty) else (nI (3 + Ty.length), Ty ++ [(l, q)])
theorem sNum_some {Ty : List (Nat × Nat)} {l q j : Nat} (h : fnd Ty (l, q) = some j) : sNum Ty l q = (nI (3 + j), Ty) := by simp [sNum, h]
theorem sNum_full {Ty : List (Nat × Nat)} {l q : Nat} (h : fnd Ty (l, q) = none) (e : Ty.length = 13) : sNum Ty l q = (-4, Ty) := by simp [sNum, h, e]
theorem sNum_new {Ty : List (Nat × Nat)} {l q : Nat} (h : fnd Ty (l, q) = none) (e : Ty.length ≠ 13) : sNum Ty l q = (nI (3 + Ty.length), Ty ++ [(l, q)]) := by simp [sNum, h, e]
theorem XT_add {Ty : List (Nat × Nat)} {i : Nat → Int32} {r : Nat → Nat → Int32} {l q : Nat} (h : XT Ty i r) (e : Ty.length ≠ 13) (hl : l < 16) (hq : q < 16) (i2 : Nat → Int32) (r2 : Nat → Nat → Int32) (hi : i2 0 = nI (3 + Ty.length + 1)) (h0 : r2 0 = upd (r 0) (3 + Ty.length) (nI l)) (h1 : r2 1 = upd (r 1) (3 + Ty.length) (nI q)) : XT (Ty ++ [(l, q)]) i2 r2 := by
  obtain ⟨e0, e1, e2, e3⟩ := h
  refine ⟨by rw [hi]; simp; congr 1, by simp; omega, fun j hj => by rw [h0, pk_un (by omega)]; exact e2 j hj, fun j p hj => ?_⟩
  by_cases c : j < Ty.length
  · rw [List.getElem?_append_left c] at hj
    rw [h0, h1, pk_un (by omega), pk_un (by omega)]
    exact e3 j p hj
  · rw [List.getElem?_append_right (by omega)] at hj
    have hz : j - Ty.length < 1 := (List.getElem?_eq_some_iff.mp hj).1
    have hj2 : j = Ty.length := by omega
    subst hj2
    simp at hj
    subst hj
    rw [h0, h1, pk_us, pk_us]
    exact ⟨⟨rfl, rfl⟩, hl, hq⟩
set_option maxRecDepth 100000 in
set_option maxHeartbeats 4000000 in
theorem c_T_numberOf {τ : Nat × Nat} {a : Nat → Nat} {i : Nat → Int32} {r : Nat → Nat → Int32} {L : Nat → Int64} {wr : pW} (Ty : List (Nat × Nat)) (h : XT Ty i r) (l q : Nat) (hl : l < 16) (hq : q < 16) : pC m_T_numberOf τ [.ref (a 1), .int (nI l), .int (nI q)] (wX a i r L ++ wr) (fun rr w2 => ∃ i2 r2, rr = some (.int (sNum Ty l q).1) ∧ w2 = wX a i2 r2 L ++ wr ∧ XT (sNum Ty l q).2 i2 r2 ∧ (∀ j, j ≠ 0 → i2 j = i j) ∧ (∀ j, j ≠ 0 → j ≠ 1 → r2 j = r j)) := by
  have hb := h.2.1
  have key : ∀ m j : Nat, Ty.length - j = m → j ≤ Ty.length → (∀ z, z < j → Ty[z]? ≠ some (l, q)) → pG m_T_numberOf τ (fun rr w2 => ∃ i2 r2, rr = some (.int (sNum Ty l q).1) ∧ w2 = wX a i2 r2 L ++ wr ∧ XT (sNum Ty l q).2 i2 r2 ∧ (∀ j, j ≠ 0 → i2 j = i j) ∧ (∀ j, j ≠ 0 → j ≠ 1 → r2 j = r j)) 0 0 2 [(3, .int (nI (3 + j))), (0, .ref (a 1)), (1, .int (nI l)), (2, .int (nI q))] [] (wX a i r L ++ wr) := by
    intro m
    induction m with
    | zero =>
      intro j hm hj hn
      refine g_iload_n (pc := 2) d_T_numberOf_2 rfl ?_
      refine g_aload_n (pc := 3) d_T_numberOf_3 rfl ?_
      refine gx_T_count (pc := 4) d_T_numberOf_4 lf_T_18 ?_
      rw [h.1]
      refine g_nicmp_ge (pc := 7) (tgt := 38) d_T_numberOf_7 (by decide) (by omega) (by omega) (fun h7 => ?_) (fun h => absurd h (by omega))
      have hf : fnd Ty (l, q) = none := fnd_none (fun z hz => hn z (by omega))
      refine g_aload_n (pc := 38) d_T_numberOf_38 rfl ?_
      refine gx_T_count (pc := 39) d_T_numberOf_39 lf_T_18 ?_
      rw [h.1]
      refine g_bipush (pc := 42) (v := nI 16) d_T_numberOf_42 (by decide) ?_
      refine g_nicmp_ne (pc := 44) (tgt := 50) d_T_numberOf_44 (by decide) (by omega) (by omega) (fun h44 => ?_) (fun h44 => ?_)
      · refine g_aload_n (pc := 50) d_T_numberOf_50 rfl ?_
        refine gx_T_from (pc := 51) d_T_numberOf_51 lf_T_9 ?_
        refine g_aload_n (pc := 54) d_T_numberOf_54 rfl ?_
        refine gx_T_count (pc := 55) d_T_numberOf_55 lf_T_18 ?_
        rw [h.1]
        refine g_iload_n (pc := 58) d_T_numberOf_58 rfl ?_
        refine gsx_T_from (pc := 59) d_T_numberOf_59 (vp_in_nI (by omega) (by decide)) ?_
        refine g_aload_n (pc := 60) d_T_numberOf_60 rfl ?_
        refine gx_T_to (pc := 61) d_T_numberOf_61 lf_T_15 ?_
        refine g_aload_n (pc := 64) d_T_numberOf_64 rfl ?_
        refine gx_T_count (pc := 65) d_T_numberOf_65 lf_T_18 ?_
        rw [h.1]
        refine g_iload_n (pc := 68) d_T_numberOf_68 rfl ?_
        refine gsx_T_to (pc := 69) d_T_numberOf_69 (vp_in_nI (by omega) (by decide)) ?_
        refine g_aload_n (pc := 70) d_T_numberOf_70 rfl ?_
        refine g_dup (pc := 71) d_T_numberOf_71 rfl ?_
        refine gx_T_count (pc := 72) d_T_numberOf_72 lf_T_18 ?_
        rw [h.1]
        refine g_iconst (pc := 75) (v := nI 1) d_T_numberOf_75 (by decide) ?_
        refine g_nadd (pc := 76) d_T_numberOf_76 ?_
        refine gx_T_count_p (pc := 77) d_T_numberOf_77 lf_T_18 ?_
        refine g_aload_n (pc := 80) d_T_numberOf_80 rfl ?_
        refine gx_T_count (pc := 81) d_T_numberOf_81 lf_T_18 ?_
        rw [pk_us]
        refine g_iconst (pc := 84) (v := nI 1) d_T_numberOf_84 (by decide) ?_
        refine g_nsub (pc := 85) d_T_numberOf_85 (by omega) ?_
        refine g_iret (pc := 86) d_T_numberOf_86 rfl (Nat.le_refl _) (Nat.le_refl _) ?_
        refine ⟨_, _, ?_, rfl, ?_, ?_, ?_⟩
        · rw [sNum_new hf (by omega)]
          rfl
        · rw [sNum_new hf (by omega)]
          exact XT_add h (by omega) hl hq _ _ (by rw [pk_us]) (by rw [up_n (by decide), up_s, nI_clamp (by omega)]) (by rw [up_s, up_n (by decide), nI_clamp (by omega)])
        · intro j hj
          exact pk_un hj
        · intro j h0 h1
          rw [up_n h1, up_n h0]
      · refine g_bipush (pc := 47) (v := -4) d_T_numberOf_47 (by decide) ?_
        refine g_iret (pc := 49) d_T_numberOf_49 rfl (Nat.le_refl _) (Nat.le_refl _) ?_
        refine ⟨i, r, by rw [sNum_full hf (by omega)], rfl, by rw [sNum_full hf (by omega)]; exact h, fun _ _ => rfl, fun _ _ _ => rfl⟩
    | succ m ih =>
      intro j hm hj hn
      refine g_iload_n (pc := 2) d_T_numberOf_2 rfl ?_
      refine g_aload_n (pc := 3) d_T_numberOf_3 rfl ?_
      refine gx_T_count (pc := 4) d_T_numberOf_4 lf_T_18 ?_
      rw [h.1]
      refine g_nicmp_ge (pc := 7) (tgt := 38) d_T_numberOf_7 (by decide) (by omega) (by omega) (fun h => absurd h (by omega)) (fun h7 => ?_)
      obtain ⟨p, hp⟩ : ∃ p, Ty[j]? = some p := ⟨_, List.getElem?_eq_getElem (by omega)⟩
      obtain ⟨⟨hp1, hp2⟩, hp3, hp4⟩ := h.2.2.2 j p hp
      refine g_aload_n (pc := 10) d_T_numberOf_10 rfl ?_
      refine gx_T_from (pc := 11) d_T_numberOf_11 lf_T_9 ?_
      refine g_iload_n (pc := 14) d_T_numberOf_14 rfl ?_
      refine glx_T_from (pc := 15) (v := nI p.1) d_T_numberOf_15 (vp_in_nI (by omega) (by decide)) (by rw [nI_clamp (by omega)]; exact hp1) ?_
      refine g_iload_n (pc := 16) d_T_numberOf_16 rfl ?_
      refine g_nicmp_ne (pc := 17) (tgt := 32) d_T_numberOf_17 (by decide) (by omega) (by omega) (fun h17 => ?_) (fun h17 => ?_)
      · have hne : Ty[j]? ≠ some (l, q) := by
          rw [hp]
          intro e
          have e := Option.some.inj e
          subst e
          first | exact h17 rfl | exact h27 rfl
        refine g_niinc (pc := 32) [(3, _), (0, _), (1, _), (2, _)] d_T_numberOf_32 rfl (by decide) rfl ?_
        refine g_goto (pc := 35) (tgt := 2) d_T_numberOf_35 (by decide) ?_
        refine g_pick [0, 1, 2, 3] [(3, _), (0, _), (1, _), (2, _)] rfl ?_
        exact ih (j + 1) (by omega) (by omega) (lt_s hn hne)
      · refine g_aload_n (pc := 20) d_T_numberOf_20 rfl ?_
        refine gx_T_to (pc := 21) d_T_numberOf_21 lf_T_15 ?_
        refine g_iload_n (pc := 24) d_T_numberOf_24 rfl ?_
        refine glx_T_to (pc := 25) (v := nI p.2) d_T_numberOf_25 (vp_in_nI (by omega) (by decide)) (by rw [nI_clamp (by omega)]; exact hp2) ?_
        refine g_iload_n (pc := 26) d_T_numberOf_26 rfl ?_
        refine g_nicmp_ne (pc := 27) (tgt := 32) d_T_numberOf_27 (by decide) (by omega) (by omega) (fun h27 => ?_) (fun h27 => ?_)
        · have hne : Ty[j]? ≠ some (l, q) := by
            rw [hp]
            intro e
            have e := Option.some.inj e
            subst e
            first | exact h17 rfl | exact h27 rfl
          refine g_niinc (pc := 32) [(3, _), (0, _), (1, _), (2, _)] d_T_numberOf_32 rfl (by decide) rfl ?_
          refine g_goto (pc := 35) (tgt := 2) d_T_numberOf_35 (by decide) ?_
          refine g_pick [0, 1, 2, 3] [(3, _), (0, _), (1, _), (2, _)] rfl ?_
          exact ih (j + 1) (by omega) (by omega) (lt_s hn hne)
        · refine g_iload_n (pc := 30) d_T_numberOf_30 rfl ?_
          refine g_iret (pc := 31) d_T_numberOf_31 rfl (Nat.le_refl _) (Nat.le_refl _) ?_
          have e : p = (l, q) := Prod.ext h17 h27
          subst e
          refine ⟨i, r, by rw [sNum_some (fnd_some hp hn)], rfl, by rw [sNum_some (fnd_some hp hn)]; exact h, fun _ _ => rfl, fun _ _ _ => rfl⟩
  refine pC.of rfl (Nat.le_of_ble_eq_true rfl) ?_
  show pG m_T_numberOf τ _ 0 0 0 [(0, _), (1, _), (2, _)] [] _
  refine g_iconst (pc := 0) (v := nI 3) d_T_numberOf_0 (by decide) ?_
  refine g_istore_n (pc := 1) [(3, _), (0, _), (1, _), (2, _)] d_T_numberOf_1 (by decide) rfl ?_
  exact key _ 0 rfl (Nat.zero_le _) lt_0
end
section
/-! Shelf: contracts of the readers. By wip/whole/m_shelf.py -/
set_option maxRecDepth 100000 in
set_option maxHeartbeats 4000000 in
theorem c_S_count {τ : Nat × Nat} {a : Nat → Nat} {i : Nat → Int32} {r : Nat → Nat → Int32} {L : Nat → Int64} {wr : pW}  : pC m_S_count τ [.ref (a 2)] (wX a i r L ++ wr) (fun rr w2 => rr = some (.int (i 1)) ∧ w2 = wX a i r L ++ wr) := by
  refine pC.of rfl (Nat.le_of_ble_eq_true rfl) ?_
  show pG m_S_count τ _ 0 0 0 [(0, _)] [] _
  refine g_aload_n (pc := 0) d_S_count_0 rfl ?_
  refine gx_S_count (pc := 1) d_S_count_1 lf_S_18 ?_
  refine g_iret (pc := 4) d_S_count_4 rfl (Nat.le_refl _) (Nat.le_refl _) ?_
  exact ⟨rfl, rfl⟩
set_option maxRecDepth 100000 in
set_option maxHeartbeats 4000000 in
theorem c_S_has {τ : Nat × Nat} {a : Nat → Nat} {i : Nat → Int32} {r : Nat → Nat → Int32} {L : Nat → Int64} {wr : pW} (c : Nat) (hc : i 1 = nI c) (hb : c < 2 ^ 31) (x : Int32) : pC m_S_has τ [.ref (a 2), .int x] (wX a i r L ++ wr) (fun rr w2 => rr = some (.int (bI (ixB x c))) ∧ w2 = wX a i r L ++ wr) := by
  refine pC.of rfl (Nat.le_of_ble_eq_true rfl) ?_
  show pG m_S_has τ _ 0 0 0 [(0, _), (1, _)] [] _
  refine g_iload_n (pc := 0) d_S_has_0 rfl ?_
  refine g_if_lt (pc := 1) (tgt := 16) d_S_has_1 (by decide) (fun h1 => ?_) (fun h1 => ?_)
  · refine g_iconst (pc := 16) (v := nI 0) d_S_has_16 (by decide) ?_
    refine g_zret (pc := 17) d_S_has_17 rfl (by decide) (Nat.le_refl _) (Nat.le_refl _) ?_
    refine ⟨congrArg (fun v => some (Value.int v)) ?_, rfl⟩
    first | exact bI_0 (ixB_neg (by assumption)) | exact bI_0 (ixB_big hb (by assumption)) | exact bI_1 (ixB_in hb (by assumption) (by assumption))
  · refine g_iload_n (pc := 4) d_S_has_4 rfl ?_
    refine g_aload_n (pc := 5) d_S_has_5 rfl ?_
    refine gx_S_count (pc := 6) d_S_has_6 lf_S_18 ?_
    rw [hc]
    refine g_icmp_ge (pc := 9) (tgt := 16) d_S_has_9 (by decide) (fun h9 => ?_) (fun h9 => ?_)
    · refine g_iconst (pc := 16) (v := nI 0) d_S_has_16 (by decide) ?_
      refine g_zret (pc := 17) d_S_has_17 rfl (by decide) (Nat.le_refl _) (Nat.le_refl _) ?_
      refine ⟨congrArg (fun v => some (Value.int v)) ?_, rfl⟩
      first | exact bI_0 (ixB_neg (by assumption)) | exact bI_0 (ixB_big hb (by assumption)) | exact bI_1 (ixB_in hb (by assumption) (by assumption))
    · refine g_iconst (pc := 12) (v := nI 1) d_S_has_12 (by decide) ?_
      refine g_goto (pc := 13) (tgt := 17) d_S_has_13 (by decide) ?_
      refine g_zret (pc := 17) d_S_has_17 rfl (by decide) (Nat.le_refl _) (Nat.le_refl _) ?_
      refine ⟨congrArg (fun v => some (Value.int v)) ?_, rfl⟩
      first | exact bI_0 (ixB_neg (by assumption)) | exact bI_0 (ixB_big hb (by assumption)) | exact bI_1 (ixB_in hb (by assumption) (by assumption))
set_option maxRecDepth 100000 in
set_option maxHeartbeats 4000000 in
theorem c_S_start {τ : Nat × Nat} {a : Nat → Nat} {i : Nat → Int32} {r : Nat → Nat → Int32} {L : Nat → Int64} {wr : pW} (t : Nat) : pC m_S_start τ [.ref (a 2), .int (nI t)] (wX a i r L ++ wr) (fun rr w2 => rr = some (.int (nI (30 * t))) ∧ w2 = wX a i r L ++ wr) := by
  refine pC.of rfl (Nat.le_of_ble_eq_true rfl) ?_
  show pG m_S_start τ _ 0 0 0 [(0, _), (1, _)] [] _
  refine g_iload_n (pc := 0) d_S_start_0 rfl ?_
  refine g_bipush (pc := 1) (v := nI 30) d_S_start_1 (by decide) ?_
  refine g_nmul (pc := 3) d_S_start_3 ?_
  refine g_iret (pc := 4) d_S_start_4 rfl (Nat.le_refl _) (Nat.le_refl _) ?_
  exact ⟨by rw [Nat.mul_comm], rfl⟩
set_option maxRecDepth 100000 in
set_option maxHeartbeats 4000000 in
theorem c_S_length {τ : Nat × Nat} {a : Nat → Nat} {i : Nat → Int32} {r : Nat → Nat → Int32} {L : Nat → Int64} {wr : pW} (t : Nat) (ht : t < 60) : pC m_S_length τ [.ref (a 2), .int (nI t)] (wX a i r L ++ wr) (fun rr w2 => rr = some (.int (r 3 t)) ∧ w2 = wX a i r L ++ wr) := by
  refine pC.of rfl (Nat.le_of_ble_eq_true rfl) ?_
  show pG m_S_length τ _ 0 0 0 [(0, _), (1, _)] [] _
  refine g_aload_n (pc := 0) d_S_length_0 rfl ?_
  refine gx_S_lengths (pc := 1) d_S_length_1 lf_S_15 ?_
  refine g_iload_n (pc := 4) d_S_length_4 rfl ?_
  refine glx_S_lengths (pc := 5) d_S_length_5 (vp_in_nI ht (by decide)) rfl ?_
  refine g_iret (pc := 6) d_S_length_6 rfl (Nat.le_refl _) (Nat.le_refl _) ?_
  exact ⟨by rw [nI_clamp (by omega)], rfl⟩
set_option maxRecDepth 100000 in
set_option maxHeartbeats 4000000 in
theorem c_S_token {τ : Nat × Nat} {a : Nat → Nat} {i : Nat → Int32} {r : Nat → Nat → Int32} {L : Nat → Int64} {wr : pW} (k x : Nat) (hk : k < 1800) (hv : r 2 k = nI x) : pC m_S_token τ [.ref (a 2), .int (nI k)] (wX a i r L ++ wr) (fun rr w2 => rr = some (.int (nI x)) ∧ w2 = wX a i r L ++ wr) := by
  refine pC.of rfl (Nat.le_of_ble_eq_true rfl) ?_
  show pG m_S_token τ _ 0 0 0 [(0, _), (1, _)] [] _
  refine g_iload_n (pc := 0) d_S_token_0 rfl ?_
  refine g_aload_n (pc := 1) d_S_token_1 rfl ?_
  refine gx_S_tokens (pc := 2) d_S_token_2 lf_S_9 ?_
  refine gnx_S_tokens (pc := 5) d_S_token_5 ?_
  refine g_nicmp_ge (pc := 6) (tgt := 18) d_S_token_6 (by decide) (by omega) (by omega) (fun h => absurd h (by omega)) (fun h6 => ?_)
  refine g_aload_n (pc := 9) d_S_token_9 rfl ?_
  refine gx_S_tokens (pc := 10) d_S_token_10 lf_S_9 ?_
  refine g_iload_n (pc := 13) d_S_token_13 rfl ?_
  refine glx_S_tokens (pc := 14) (v := nI x) d_S_token_14 (vp_in_nI (by omega) (by decide)) (by rw [nI_clamp (by omega)]; exact hv) ?_
  refine g_goto (pc := 15) (tgt := 19) d_S_token_15 (by decide) ?_
  refine g_iret (pc := 19) d_S_token_19 rfl (Nat.le_refl _) (Nat.le_refl _) ?_
  exact ⟨rfl, rfl⟩
set_option maxRecDepth 100000 in
set_option maxHeartbeats 4000000 in
theorem c_S_firstPart {τ : Nat × Nat} {a : Nat → Nat} {i : Nat → Int32} {r : Nat → Nat → Int32} {L : Nat → Int64} {wr : pW} (k : Nat) : pC m_S_firstPart τ [.ref (a 2), .int (nI k)] (wX a i r L ++ wr) (fun rr w2 => rr = some (.int (nI (k + 1))) ∧ w2 = wX a i r L ++ wr) := by
  refine pC.of rfl (Nat.le_of_ble_eq_true rfl) ?_
  show pG m_S_firstPart τ _ 0 0 0 [(0, _), (1, _)] [] _
  refine g_iload_n (pc := 0) d_S_firstPart_0 rfl ?_
  refine g_iconst (pc := 1) (v := nI 1) d_S_firstPart_1 (by decide) ?_
  refine g_nadd (pc := 2) d_S_firstPart_2 ?_
  refine g_iret (pc := 3) d_S_firstPart_3 rfl (Nat.le_refl _) (Nat.le_refl _) ?_
  exact ⟨rfl, rfl⟩
set_option maxRecDepth 100000 in
set_option maxHeartbeats 4000000 in
theorem c_S_cutTo {τ : Nat × Nat} {a : Nat → Nat} {i : Nat → Int32} {r : Nat → Nat → Int32} {L : Nat → Int64} {wr : pW} (x : Int32) : pC m_S_cutTo τ [.ref (a 2), .int x] (wX a i r L ++ wr) (fun rr w2 => rr = none ∧ w2 = wX a (upd i 1 x) r L ++ wr) := by
  refine pC.of rfl (Nat.le_of_ble_eq_true rfl) ?_
  show pG m_S_cutTo τ _ 0 0 0 [(0, _), (1, _)] [] _
  refine g_aload_n (pc := 0) d_S_cutTo_0 rfl ?_
  refine g_iload_n (pc := 1) d_S_cutTo_1 rfl ?_
  refine gx_S_count_p (pc := 2) d_S_cutTo_2 lf_S_18 ?_
  refine g_vret (pc := 5) d_S_cutTo_5 rfl (Nat.le_refl _) (Nat.le_refl _) ?_
  exact ⟨rfl, rfl⟩
set_option maxRecDepth 100000 in
set_option maxHeartbeats 4000000 in
theorem c_S_behind {τ : Nat × Nat} {a : Nat → Nat} {i : Nat → Int32} {r : Nat → Nat → Int32} {L : Nat → Int64} {wr : pW} (k : Nat) (row : List Nat) (hs : Seg (r 2) k row) (hp : Pol 1 row) (hk : k + row.length ≤ 1800) : pC m_S_behind τ [.ref (a 2), .int (nI k)] (wX a i r L ++ wr) ((fun rr w2 => rr = some (.int (nI (k + row.length))) ∧ w2 = wX a i r L ++ wr)) := by
  have key : ∀ (rest : List Nat) (n p : Nat), Pol n rest → Seg (r 2) p rest → p + rest.length = k + row.length → pG m_S_behind τ (fun rr w2 => rr = some (.int (nI (k + row.length))) ∧ w2 = wX a i r L ++ wr) 0 0 4 [(2, .int (nI p)), (3, .int (nI n)), (0, .ref (a 2)), (1, .int (nI k))] [] (wX a i r L ++ wr) := by
    intro rest
    induction rest with
    | nil =>
      intro n p hn hsg he
      have hn : n = 0 := hn
      subst hn
      have he : p = k + row.length := he
      refine g_iload_n (pc := 4) d_S_behind_4 rfl ?_
      refine g_nif_le (pc := 5) (tgt := 37) d_S_behind_5 (by decide) (by omega) (fun h5 => ?_) (fun h => absurd h (by omega))
      refine g_iload_n (pc := 37) d_S_behind_37 rfl ?_
      refine g_iret (pc := 38) d_S_behind_38 rfl (Nat.le_refl _) (Nat.le_refl _) ?_
      exact ⟨by rw [he], rfl⟩
    | cons t rest ih =>
      intro n p hn hsg he
      obtain ⟨m, rfl, hn2⟩ := Pol_cons hn
      obtain ⟨⟨ht1, ht2⟩, hsg2⟩ := Seg_cons hsg
      have he2 : p + 1 + rest.length = k + row.length := by simp at he; omega
      have hle := Pol_le hn2
      refine g_iload_n (pc := 4) d_S_behind_4 rfl ?_
      refine g_nif_le (pc := 5) (tgt := 37) d_S_behind_5 (by decide) (by omega) (fun h => absurd h (by omega)) (fun h5 => ?_)
      refine g_iload_n (pc := 8) d_S_behind_8 rfl ?_
      refine g_aload_n (pc := 9) d_S_behind_9 rfl ?_
      refine gx_S_tokens (pc := 10) d_S_behind_10 lf_S_9 ?_
      refine gnx_S_tokens (pc := 13) d_S_behind_13 ?_
      refine g_nicmp_ge (pc := 14) (tgt := 37) d_S_behind_14 (by decide) (by omega) (by omega) (fun h => absurd h (by omega)) (fun h14 => ?_)
      refine g_iload_n (pc := 17) d_S_behind_17 rfl ?_
      refine g_aload_n (pc := 18) d_S_behind_18 rfl ?_
      refine gx_S_tokens (pc := 19) d_S_behind_19 lf_S_9 ?_
      refine g_iload_n (pc := 22) d_S_behind_22 rfl ?_
      refine glx_S_tokens (pc := 23) (v := nI t) d_S_behind_23 (vp_in_nI (by omega) (by decide)) (by rw [nI_clamp (by omega)]; exact ht1) ?_
      refine g_callS (M' := m_O_parts) (pc := 24) d_S_behind_24 lm_S_26 (c_O_parts t ht2) v_O_parts rfl (by decide) rfl (Nat.le_of_ble_eq_true rfl) ?_
      rintro _ _ ⟨rfl, rfl⟩
      show pG m_S_behind τ _ 0 0 27 _ (.int _ :: _) _
      refine g_iconst (pc := 27) (v := nI 1) d_S_behind_27 (by decide) ?_
      refine g_isub (pc := 28) d_S_behind_28 ?_
      refine g_iadd (pc := 29) d_S_behind_29 ?_
      refine g_topi (nI (m + kPt t)) (nI_opn m (kPt t)) ?_
      refine g_istore_n (pc := 30) [(3, _), (2, _), (0, _), (1, _)] d_S_behind_30 (by decide) rfl ?_
      refine g_niinc (pc := 31) [(2, _), (3, _), (0, _), (1, _)] d_S_behind_31 rfl (by decide) rfl ?_
      refine g_goto (pc := 34) (tgt := 4) d_S_behind_34 (by decide) ?_
      exact ih _ _ hn2 hsg2 he2
  refine pC.of rfl (Nat.le_of_ble_eq_true rfl) ?_
  show pG m_S_behind τ _ 0 0 0 [(0, _), (1, _)] [] _
  refine g_iload_n (pc := 0) d_S_behind_0 rfl ?_
  refine g_istore_n (pc := 1) [(2, _), (0, _), (1, _)] d_S_behind_1 (by decide) rfl ?_
  refine g_iconst (pc := 2) (v := nI 1) d_S_behind_2 (by decide) ?_
  refine g_istore_n (pc := 3) [(3, _), (2, _), (0, _), (1, _)] d_S_behind_3 (by decide) rfl ?_
  refine g_pick [1, 0, 2, 3] [(2, _), (3, _), (0, _), (1, _)] rfl ?_
  exact key row 1 k hp hs rfl
set_option maxRecDepth 100000 in
set_option maxHeartbeats 4000000 in
theorem c_S_secondPart {τ : Nat × Nat} {a : Nat → Nat} {i : Nat → Int32} {r : Nat → Nat → Int32} {L : Nat → Int64} {wr : pW} (k : Nat) (row : List Nat) (hs : Seg (r 2) (k + 1) row) (hp : Pol 1 row) (hk : k + 1 + row.length ≤ 1800) : pC m_S_secondPart τ [.ref (a 2), .int (nI k)] (wX a i r L ++ wr) (fun rr w2 => rr = some (.int (nI (k + 1 + row.length))) ∧ w2 = wX a i r L ++ wr) := by
  refine pC.of rfl (Nat.le_of_ble_eq_true rfl) ?_
  show pG m_S_secondPart τ _ 0 0 0 [(0, _), (1, _)] [] _
  refine g_aload_n (pc := 0) d_S_secondPart_0 rfl ?_
  refine g_iload_n (pc := 1) d_S_secondPart_1 rfl ?_
  refine g_iconst (pc := 2) (v := nI 1) d_S_secondPart_2 (by decide) ?_
  refine g_nadd (pc := 3) d_S_secondPart_3 ?_
  refine g_callV (M' := m_S_behind) (pc := 4) (q := 2) d_S_secondPart_4 lm_S_22 (c_S_behind (k + 1) row hs hp hk) v_S_behind rfl rfl rfl (by decide) rfl (Nat.le_of_ble_eq_true rfl) ?_
  rintro _ _ ⟨rfl, rfl⟩
  show pG m_S_secondPart τ _ 0 0 7 _ (.int _ :: _) _
  refine g_iret (pc := 7) d_S_secondPart_7 rfl (Nat.le_refl _) (Nat.le_refl _) ?_
  exact ⟨rfl, rfl⟩
set_option maxRecDepth 100000 in
set_option maxHeartbeats 4000000 in
theorem c_S_same {τ : Nat × Nat} {a : Nat → Nat} {i : Nat → Int32} {r : Nat → Nat → Int32} {L : Nat → Int64} {wr : pW} (l q : Nat) (R S : List Nat) (hs : Seg (r 2) l R) (hp : Pol 1 R) (hk : l + R.length ≤ 1800) (hs2 : Seg (r 2) q S) (hp2 : Pol 1 S) (hk2 : q + S.length ≤ 1800) : pC m_S_same τ [.ref (a 2), .int (nI l), .int (nI q)] (wX a i r L ++ wr) ((fun rr w2 => rr = some (.int (bI (decide (R = S)))) ∧ w2 = wX a i r L ++ wr)) := by
  have key : ∀ m z : Nat, R.length - z = m → z ≤ R.length → (∀ y, y < z → R[y]? = S[y]?) → pG m_S_same τ (fun rr w2 => rr = some (.int (bI (decide (R = S)))) ∧ w2 = wX a i r L ++ wr) 0 0 11 [(4, .int (nI z)), (3, .int (nI R.length)), (0, .ref (a 2)), (1, .int (nI l)), (2, .int (nI q))] [] (wX a i r L ++ wr) := by
    intro m
    induction m with
    | zero =>
      intro z hm hz ag
      refine g_iload (pc := 11) d_S_same_11 rfl ?_
      refine g_iload_n (pc := 13) d_S_same_13 rfl ?_
      refine g_nicmp_ge (pc := 14) (tgt := 44) d_S_same_14 (by decide) (by omega) (by omega) (fun h14 => ?_) (fun h => absurd h (by omega))
      refine g_iconst (pc := 44) (v := nI 1) d_S_same_44 (by decide) ?_
      refine g_zret (pc := 45) d_S_same_45 rfl (by decide) (Nat.le_refl _) (Nat.le_refl _) ?_
      exact ⟨congrArg (fun v => some (Value.int v)) (bI_1 (by rw [decide_eq_true_eq]; exact Pol_same hp hp2 (fun y hy => ag y (by omega)))), rfl⟩
    | succ m ih =>
      intro z hm hz ag
      have hz1 : z < R.length := by omega
      have hz2 : z < S.length := Pol_agree hp hp2 hz1 ag
      have hx := hs z R[z] (List.getElem?_eq_getElem hz1)
      have hy := hs2 z S[z] (List.getElem?_eq_getElem hz2)
      generalize hX : R[z] = X at hx
      generalize hY : S[z] = Y at hy
      obtain ⟨hx1, hx2⟩ := hx
      obtain ⟨hy1, hy2⟩ := hy
      refine g_iload (pc := 11) d_S_same_11 rfl ?_
      refine g_iload_n (pc := 13) d_S_same_13 rfl ?_
      refine g_nicmp_ge (pc := 14) (tgt := 44) d_S_same_14 (by decide) (by omega) (by omega) (fun h => absurd h (by omega)) (fun h14 => ?_)
      refine g_aload_n (pc := 17) d_S_same_17 rfl ?_
      refine g_iload_n (pc := 18) d_S_same_18 rfl ?_
      refine g_iload (pc := 19) d_S_same_19 rfl ?_
      refine g_nadd (pc := 21) d_S_same_21 ?_
      refine g_callV (M' := m_S_token) (pc := 22) (q := 2) d_S_same_22 lm_S_31 (c_S_token (l + z) X (by omega) hx1) v_S_token rfl rfl rfl (by decide) rfl (Nat.le_of_ble_eq_true rfl) ?_
      rintro _ _ ⟨rfl, rfl⟩
      show pG m_S_same τ _ 0 0 25 _ (.int _ :: _) _
      refine g_aload_n (pc := 25) d_S_same_25 rfl ?_
      refine g_iload_n (pc := 26) d_S_same_26 rfl ?_
      refine g_iload (pc := 27) d_S_same_27 rfl ?_
      refine g_nadd (pc := 29) d_S_same_29 ?_
      refine g_callV (M' := m_S_token) (pc := 30) (q := 2) d_S_same_30 lm_S_31 (c_S_token (q + z) Y (by omega) hy1) v_S_token rfl rfl rfl (by decide) rfl (Nat.le_of_ble_eq_true rfl) ?_
      rintro _ _ ⟨rfl, rfl⟩
      show pG m_S_same τ _ 0 0 33 _ (.int _ :: _) _
      refine g_nicmp_eq (pc := 33) (tgt := 38) d_S_same_33 (by decide) (by omega) (by omega) (fun h33 => ?_) (fun h33 => ?_)
      · refine g_niinc (pc := 38) [(4, _), (3, _), (0, _), (1, _), (2, _)] d_S_same_38 rfl (by decide) rfl ?_
        refine g_goto (pc := 41) (tgt := 11) d_S_same_41 (by decide) ?_
        exact ih (z + 1) (by omega) (by omega) (lt_s ag (by rw [List.getElem?_eq_getElem hz1, List.getElem?_eq_getElem hz2, hX, hY, h33]))
      · refine g_iconst (pc := 36) (v := nI 0) d_S_same_36 (by decide) ?_
        refine g_zret (pc := 37) d_S_same_37 rfl (by decide) (Nat.le_refl _) (Nat.le_refl _) ?_
        exact ⟨congrArg (fun v => some (Value.int v)) (bI_0 (by
          rw [decide_eq_false_iff_not]
          intro e
          subst e
          exact h33 (hX.symm.trans hY))), rfl⟩
  refine pC.of rfl (Nat.le_of_ble_eq_true rfl) ?_
  show pG m_S_same τ _ 0 0 0 [(0, _), (1, _), (2, _)] [] _
  refine g_aload_n (pc := 0) d_S_same_0 rfl ?_
  refine g_iload_n (pc := 1) d_S_same_1 rfl ?_
  refine g_callV (M' := m_S_behind) (pc := 2) (q := 2) d_S_same_2 lm_S_22 (c_S_behind l R hs hp hk) v_S_behind rfl rfl rfl (by decide) rfl (Nat.le_of_ble_eq_true rfl) ?_
  rintro _ _ ⟨rfl, rfl⟩
  show pG m_S_same τ _ 0 0 5 _ (.int _ :: _) _
  refine g_iload_n (pc := 5) d_S_same_5 rfl ?_
  refine g_nsub (pc := 6) d_S_same_6 (by omega) ?_
  rw [Nat.add_sub_cancel_left]
  refine g_istore_n (pc := 7) [(3, _), (0, _), (1, _), (2, _)] d_S_same_7 (by decide) rfl ?_
  refine g_iconst (pc := 8) (v := nI 0) d_S_same_8 (by decide) ?_
  refine g_istore (pc := 9) [(4, _), (3, _), (0, _), (1, _), (2, _)] d_S_same_9 (by decide) rfl ?_
  exact key _ 0 rfl (Nat.zero_le _) lt_0
set_option maxRecDepth 100000 in
set_option maxHeartbeats 4000000 in
theorem c_S_holds {τ : Nat × Nat} {a : Nat → Nat} {i : Nat → Int32} {r : Nat → Nat → Int32} {L : Nat → Int64} {wr : pW} (t v : Nat) (row : List Nat) (ht : t < 60) (hv : v < 4096) (hs : Seg (r 2) (30 * t) row) (hl : row.length ≤ 30) (hlen : r 3 t = nI row.length) : pC m_S_holds τ [.ref (a 2), .int (nI t), .int (nI v)] (wX a i r L ++ wr) ((fun rr w2 => rr = some (.int (bI (decide (v ∈ row)))) ∧ w2 = wX a i r L ++ wr)) := by
  have key : ∀ m z : Nat, row.length - z = m → z ≤ row.length → (∀ y, y < z → row[y]? ≠ some v) → pG m_S_holds τ (fun rr w2 => rr = some (.int (bI (decide (v ∈ row)))) ∧ w2 = wX a i r L ++ wr) 0 0 20 [(4, .int (nI (30 * t + z))), (3, .int (nI (30 * t + row.length))), (0, .ref (a 2)), (1, .int (nI t)), (2, .int (nI v))] [] (wX a i r L ++ wr) := by
    intro m
    induction m with
    | zero =>
      intro z hm hz ag
      refine g_iload (pc := 20) d_S_holds_20 rfl ?_
      refine g_iload_n (pc := 22) d_S_holds_22 rfl ?_
      refine g_nicmp_ge (pc := 23) (tgt := 45) d_S_holds_23 (by decide) (by omega) (by omega) (fun h23 => ?_) (fun h => absurd h (by omega))
      refine g_iconst (pc := 45) (v := nI 0) d_S_holds_45 (by decide) ?_
      refine g_zret (pc := 46) d_S_holds_46 rfl (by decide) (Nat.le_refl _) (Nat.le_refl _) ?_
      exact ⟨congrArg (fun v => some (Value.int v)) (bI_0 (by
        rw [decide_eq_false_iff_not]
        intro e
        obtain ⟨y, hy⟩ := List.mem_iff_getElem?.mp e
        exact ag y (by have := (List.getElem?_eq_some_iff.mp hy).1; omega) hy)), rfl⟩
    | succ m ih =>
      intro z hm hz ag
      have hz1 : z < row.length := by omega
      have hx := hs z row[z] (List.getElem?_eq_getElem hz1)
      generalize hX : row[z] = X at hx
      obtain ⟨hx1, hx2⟩ := hx
      refine g_iload (pc := 20) d_S_holds_20 rfl ?_
      refine g_iload_n (pc := 22) d_S_holds_22 rfl ?_
      refine g_nicmp_ge (pc := 23) (tgt := 45) d_S_holds_23 (by decide) (by omega) (by omega) (fun h => absurd h (by omega)) (fun h23 => ?_)
      refine g_aload_n (pc := 26) d_S_holds_26 rfl ?_
      refine gx_S_tokens (pc := 27) d_S_holds_27 lf_S_9 ?_
      refine g_iload (pc := 30) d_S_holds_30 rfl ?_
      refine glx_S_tokens (pc := 32) (v := nI X) d_S_holds_32 (vp_in_nI (by omega) (by decide)) (by rw [nI_clamp (by omega)]; exact hx1) ?_
      refine g_iload_n (pc := 33) d_S_holds_33 rfl ?_
      refine g_nicmp_ne (pc := 34) (tgt := 39) d_S_holds_34 (by decide) (by omega) (by omega) (fun h34 => ?_) (fun h34 => ?_)
      · refine g_niinc (pc := 39) [(4, _), (3, _), (0, _), (1, _), (2, _)] d_S_holds_39 rfl (by decide) rfl ?_
        refine g_goto (pc := 42) (tgt := 20) d_S_holds_42 (by decide) ?_
        exact ih (z + 1) (by omega) (by omega) (lt_s ag (by rw [List.getElem?_eq_getElem hz1, hX]; intro e; exact h34 (Option.some.inj e)))
      · refine g_iconst (pc := 37) (v := nI 1) d_S_holds_37 (by decide) ?_
        refine g_zret (pc := 38) d_S_holds_38 rfl (by decide) (Nat.le_refl _) (Nat.le_refl _) ?_
        exact ⟨congrArg (fun v => some (Value.int v)) (bI_1 (by
          rw [decide_eq_true_eq, ← h34, ← hX]
          exact List.getElem_mem hz1)), rfl⟩
  refine pC.of rfl (Nat.le_of_ble_eq_true rfl) ?_
  show pG m_S_holds τ _ 0 0 0 [(0, _), (1, _), (2, _)] [] _
  refine g_aload_n (pc := 0) d_S_holds_0 rfl ?_
  refine g_iload_n (pc := 1) d_S_holds_1 rfl ?_
  refine g_callV (M' := m_S_start) (pc := 2) (q := 2) d_S_holds_2 lm_S_34 (c_S_start t) v_S_start rfl rfl rfl (by decide) rfl (Nat.le_of_ble_eq_true rfl) ?_
  rintro _ _ ⟨rfl, rfl⟩
  show pG m_S_holds τ _ 0 0 5 _ (.int _ :: _) _
  refine g_aload_n (pc := 5) d_S_holds_5 rfl ?_
  refine gx_S_lengths (pc := 6) d_S_holds_6 lf_S_15 ?_
  refine g_iload_n (pc := 9) d_S_holds_9 rfl ?_
  refine glx_S_lengths (pc := 10) (v := nI row.length) d_S_holds_10 (vp_in_nI (by omega) (by decide)) (by rw [nI_clamp (by omega)]; exact hlen) ?_
  refine g_nadd (pc := 11) d_S_holds_11 ?_
  refine g_istore_n (pc := 12) [(3, _), (0, _), (1, _), (2, _)] d_S_holds_12 (by decide) rfl ?_
  refine g_aload_n (pc := 13) d_S_holds_13 rfl ?_
  refine g_iload_n (pc := 14) d_S_holds_14 rfl ?_
  refine g_callV (M' := m_S_start) (pc := 15) (q := 2) d_S_holds_15 lm_S_34 (c_S_start t) v_S_start rfl rfl rfl (by decide) rfl (Nat.le_of_ble_eq_true rfl) ?_
  rintro _ _ ⟨rfl, rfl⟩
  show pG m_S_holds τ _ 0 0 18 _ (.int _ :: _) _
  refine g_istore (pc := 18) [(4, _), (3, _), (0, _), (1, _), (2, _)] d_S_holds_18 (by decide) rfl ?_
  exact key _ 0 rfl (Nat.zero_le _) lt_0
end
section
/-! Draft: contracts. By wip/whole/m_draft.py -/
set_option maxRecDepth 100000 in
set_option maxHeartbeats 4000000 in
theorem c_D_clear {τ : Nat × Nat} {a : Nat → Nat} {i : Nat → Int32} {r : Nat → Nat → Int32} {L : Nat → Int64} {wr : pW}  : pC m_D_clear τ [.ref (a 3)] (wX a i r L ++ wr) (fun rr w2 => rr = none ∧ w2 = wX a (upd i 2 (nI 0)) r L ++ wr) := by
  refine pC.of rfl (Nat.le_of_ble_eq_true rfl) ?_
  show pG m_D_clear τ _ 0 0 0 [(0, _)] [] _
  refine g_aload_n (pc := 0) d_D_clear_0 rfl ?_
  refine g_iconst (pc := 1) (v := nI 0) d_D_clear_1 (by decide) ?_
  refine gx_D_length_p (pc := 2) d_D_clear_2 lf_D_22 ?_
  refine g_vret (pc := 5) d_D_clear_5 rfl (Nat.le_refl _) (Nat.le_refl _) ?_
  exact ⟨rfl, rfl⟩
set_option maxRecDepth 100000 in
set_option maxHeartbeats 4000000 in
theorem c_D_spoil {τ : Nat × Nat} {a : Nat → Nat} {i : Nat → Int32} {r : Nat → Nat → Int32} {L : Nat → Int64} {wr : pW}  : pC m_D_spoil τ [.ref (a 3)] (wX a i r L ++ wr) (fun rr w2 => rr = none ∧ w2 = wX a (upd i 2 (nI 31)) r L ++ wr) := by
  refine pC.of rfl (Nat.le_of_ble_eq_true rfl) ?_
  show pG m_D_spoil τ _ 0 0 0 [(0, _)] [] _
  refine g_aload_n (pc := 0) d_D_spoil_0 rfl ?_
  refine g_bipush (pc := 1) (v := nI 31) d_D_spoil_1 (by decide) ?_
  refine gx_D_length_p (pc := 3) d_D_spoil_3 lf_D_22 ?_
  refine g_vret (pc := 6) d_D_spoil_6 rfl (Nat.le_refl _) (Nat.le_refl _) ?_
  exact ⟨rfl, rfl⟩
set_option maxRecDepth 100000 in
set_option maxHeartbeats 4000000 in
theorem c_D_length {τ : Nat × Nat} {a : Nat → Nat} {i : Nat → Int32} {r : Nat → Nat → Int32} {L : Nat → Int64} {wr : pW}  : pC m_D_length τ [.ref (a 3)] (wX a i r L ++ wr) (fun rr w2 => rr = some (.int (i 2)) ∧ w2 = wX a i r L ++ wr) := by
  refine pC.of rfl (Nat.le_of_ble_eq_true rfl) ?_
  show pG m_D_length τ _ 0 0 0 [(0, _)] [] _
  refine g_aload_n (pc := 0) d_D_length_0 rfl ?_
  refine gx_D_length (pc := 1) d_D_length_1 lf_D_22 ?_
  refine g_iret (pc := 4) d_D_length_4 rfl (Nat.le_refl _) (Nat.le_refl _) ?_
  exact ⟨rfl, rfl⟩
set_option maxRecDepth 100000 in
set_option maxHeartbeats 4000000 in
theorem c_D_isTooLarge {τ : Nat × Nat} {a : Nat → Nat} {i : Nat → Int32} {r : Nat → Nat → Int32} {L : Nat → Int64} {wr : pW} (c : Nat) (hc : i 2 = nI c) (hb : c < 2 ^ 31) : pC m_D_isTooLarge τ [.ref (a 3)] (wX a i r L ++ wr) (fun rr w2 => rr = some (.int (bI (decide (30 < c)))) ∧ w2 = wX a i r L ++ wr) := by
  refine pC.of rfl (Nat.le_of_ble_eq_true rfl) ?_
  show pG m_D_isTooLarge τ _ 0 0 0 [(0, _)] [] _
  refine g_aload_n (pc := 0) d_D_isTooLarge_0 rfl ?_
  refine gx_D_length (pc := 1) d_D_isTooLarge_1 lf_D_22 ?_
  rw [hc]
  refine g_bipush (pc := 4) (v := nI 30) d_D_isTooLarge_4 (by decide) ?_
  refine g_nicmp_le (pc := 6) (tgt := 13) d_D_isTooLarge_6 (by decide) (by omega) (by omega) (fun h6 => ?_) (fun h6 => ?_)
  · refine g_iconst (pc := 13) (v := nI 0) d_D_isTooLarge_13 (by decide) ?_
    refine g_zret (pc := 14) d_D_isTooLarge_14 rfl (by decide) (Nat.le_refl _) (Nat.le_refl _) ?_
    refine ⟨congrArg (fun v => some (Value.int v)) ?_, rfl⟩
    first | exact bI_1 (by rw [decide_eq_true_eq]; omega) | exact bI_0 (by rw [decide_eq_false_iff_not]; omega)
  · refine g_iconst (pc := 9) (v := nI 1) d_D_isTooLarge_9 (by decide) ?_
    refine g_goto (pc := 10) (tgt := 14) d_D_isTooLarge_10 (by decide) ?_
    refine g_zret (pc := 14) d_D_isTooLarge_14 rfl (by decide) (Nat.le_refl _) (Nat.le_refl _) ?_
    refine ⟨congrArg (fun v => some (Value.int v)) ?_, rfl⟩
    first | exact bI_1 (by rw [decide_eq_true_eq]; omega) | exact bI_0 (by rw [decide_eq_false_iff_not]; omega)
set_option maxRecDepth 100000 in
set_option maxHeartbeats 4000000 in
theorem c_D_add {τ : Nat × Nat} {a : Nat → Nat} {i : Nat → Int32} {r : Nat → Nat → Int32} {L : Nat → Int64} {wr : pW} (d : List Nat) (x : Nat) (h : XD d i r) (hb : d.length < 100000) : pC m_D_add τ [.ref (a 3), .int (nI x)] (wX a i r L ++ wr) ((fun rr w2 => ∃ i2 r2, rr = none ∧ w2 = wX a i2 r2 L ++ wr ∧ XD (d ++ [x]) i2 r2 ∧ DK i r i2 r2)) := by
  refine pC.of rfl (Nat.le_of_ble_eq_true rfl) ?_
  show pG m_D_add τ _ 0 0 0 [(0, _), (1, _)] [] _
  refine g_aload_n (pc := 0) d_D_add_0 rfl ?_
  refine gx_D_length (pc := 1) d_D_add_1 lf_D_22 ?_
  rw [h.1]
  refine g_bipush (pc := 4) (v := nI 30) d_D_add_4 (by decide) ?_
  refine g_nicmp_ge (pc := 6) (tgt := 19) d_D_add_6 (by decide) (by omega) (by omega) (fun h6 => ?_) (fun h6 => ?_)
  · refine g_aload_n (pc := 19) d_D_add_19 rfl ?_
    refine g_dup (pc := 20) d_D_add_20 rfl ?_
    refine gx_D_length (pc := 21) d_D_add_21 lf_D_22 ?_
    rw [h.1]
    refine g_iconst (pc := 24) (v := nI 1) d_D_add_24 (by decide) ?_
    refine g_nadd (pc := 25) d_D_add_25 ?_
    refine gx_D_length_p (pc := 26) d_D_add_26 lf_D_22 ?_
    refine g_vret (pc := 29) d_D_add_29 rfl (Nat.le_refl _) (Nat.le_refl _) ?_
    first | exact ⟨_, _, rfl, rfl, XD_add h (by rw [pk_us]) (fun hl => by rw [up_s, nI_clamp (by omega)]), fun j hj => pk_un hj, fun j hj => up_n hj⟩ | exact ⟨_, _, rfl, rfl, XD_add h (by rw [pk_us]) (fun hl => absurd hl (by omega)), fun j hj => pk_un hj, fun j hj => rfl⟩
  · refine g_aload_n (pc := 9) d_D_add_9 rfl ?_
    refine gx_D_row (pc := 10) d_D_add_10 lf_D_9 ?_
    refine g_aload_n (pc := 13) d_D_add_13 rfl ?_
    refine gx_D_length (pc := 14) d_D_add_14 lf_D_22 ?_
    rw [h.1]
    refine g_iload_n (pc := 17) d_D_add_17 rfl ?_
    refine gsx_D_row (pc := 18) d_D_add_18 (vp_in_nI (by omega) (by decide)) ?_
    refine g_aload_n (pc := 19) d_D_add_19 rfl ?_
    refine g_dup (pc := 20) d_D_add_20 rfl ?_
    refine gx_D_length (pc := 21) d_D_add_21 lf_D_22 ?_
    rw [h.1]
    refine g_iconst (pc := 24) (v := nI 1) d_D_add_24 (by decide) ?_
    refine g_nadd (pc := 25) d_D_add_25 ?_
    refine gx_D_length_p (pc := 26) d_D_add_26 lf_D_22 ?_
    refine g_vret (pc := 29) d_D_add_29 rfl (Nat.le_refl _) (Nat.le_refl _) ?_
    first | exact ⟨_, _, rfl, rfl, XD_add h (by rw [pk_us]) (fun hl => by rw [up_s, nI_clamp (by omega)]), fun j hj => pk_un hj, fun j hj => up_n hj⟩ | exact ⟨_, _, rfl, rfl, XD_add h (by rw [pk_us]) (fun hl => absurd hl (by omega)), fun j hj => pk_un hj, fun j hj => rfl⟩
set_option maxRecDepth 100000 in
set_option maxHeartbeats 4000000 in
theorem c_D_addPart {τ : Nat × Nat} {a : Nat → Nat} {i : Nat → Int32} {r : Nat → Nat → Int32} {L : Nat → Int64} {wr : pW} (d : List Nat) (k : Nat) (row : List Nat) (hd : XD d i r) (hs : Seg (r 2) k row) (hp : Pol 1 row) (hk : k + row.length ≤ 1800) (hb : d.length + row.length < 100000) : pC m_D_addPart τ [.ref (a 3), .int (nI k)] (wX a i r L ++ wr) ((fun rr w2 => ∃ i2 r2, rr = none ∧ w2 = wX a i2 r2 L ++ wr ∧ XD (d ++ row) i2 r2 ∧ DK i r i2 r2)) := by
  have key : ∀ (rest : List Nat) (p : Nat) (d1 : List Nat) (i1 : Nat → Int32) (r1 : Nat → Nat → Int32), p + rest.length = k + row.length → Seg (r1 2) p rest → XD d1 i1 r1 → DK i r i1 r1 → d1 ++ rest = d ++ row → pG m_D_addPart τ (fun rr w2 => ∃ i2 r2, rr = none ∧ w2 = wX a i2 r2 L ++ wr ∧ XD (d ++ row) i2 r2 ∧ DK i r i2 r2) 0 0 11 [(3, .int (nI p)), (2, .int (nI (k + row.length))), (0, .ref (a 3)), (1, .int (nI k))] [] (wX a i1 r1 L ++ wr) := by
    intro rest
    induction rest with
    | nil =>
      intro p d1 i1 r1 he hsg hx hdk hc
      have he : p = k + row.length := he
      rw [List.append_nil] at hc
      refine g_iload_n (pc := 11) d_D_addPart_11 rfl ?_
      refine g_iload_n (pc := 12) d_D_addPart_12 rfl ?_
      refine g_nicmp_ge (pc := 13) (tgt := 34) d_D_addPart_13 (by decide) (by omega) (by omega) (fun h13 => ?_) (fun h => absurd h (by omega))
      refine g_vret (pc := 34) d_D_addPart_34 rfl (Nat.le_refl _) (Nat.le_refl _) ?_
      exact ⟨i1, r1, rfl, rfl, by rw [← hc]; exact hx, hdk⟩
    | cons t rest ih =>
      intro p d1 i1 r1 he hsg hx hdk hc
      obtain ⟨⟨ht1, ht2⟩, hsg2⟩ := Seg_cons hsg
      have he2 : p + 1 + rest.length = k + row.length := by simp at he; omega
      have hlen := congrArg List.length hc
      simp only [List.length_append, List.length_cons] at hlen
      refine g_iload_n (pc := 11) d_D_addPart_11 rfl ?_
      refine g_iload_n (pc := 12) d_D_addPart_12 rfl ?_
      refine g_nicmp_ge (pc := 13) (tgt := 34) d_D_addPart_13 (by decide) (by omega) (by omega) (fun h => absurd h (by omega)) (fun h13 => ?_)
      refine g_aload_n (pc := 16) d_D_addPart_16 rfl ?_
      refine g_aload_n (pc := 17) d_D_addPart_17 rfl ?_
      refine gx_D_shelf (pc := 18) d_D_addPart_18 lf_D_18 ?_
      refine g_iload_n (pc := 21) d_D_addPart_21 rfl ?_
      refine g_callV (M' := m_S_token) (pc := 22) (q := 2) d_D_addPart_22 lm_D_32 (c_S_token p t (by omega) ht1) v_S_token rfl rfl rfl (by decide) rfl (Nat.le_of_ble_eq_true rfl) ?_
      rintro _ _ ⟨rfl, rfl⟩
      show pG m_D_addPart τ _ 0 0 25 _ (.int _ :: _) _
      refine g_callV (M' := m_D_add) (pc := 25) (q := 3) d_D_addPart_25 lm_D_35 (c_D_add d1 t hx (by omega)) v_D_add rfl rfl rfl (by decide) rfl (Nat.le_of_ble_eq_true rfl) ?_
      rintro _ _ ⟨i2, r2, rfl, rfl, hx2, hk2⟩
      show pG m_D_addPart τ _ 0 0 28 _ _ _
      refine g_niinc (pc := 28) [(3, _), (2, _), (0, _), (1, _)] d_D_addPart_28 rfl (by decide) rfl ?_
      refine g_goto (pc := 31) (tgt := 11) d_D_addPart_31 (by decide) ?_
      exact ih (p + 1) (d1 ++ [t]) i2 r2 he2 (by rw [hk2.2 2 (by decide)]; exact hsg2) hx2 (hdk.tr hk2) (by rw [List.append_assoc]; exact hc)
  refine pC.of rfl (Nat.le_of_ble_eq_true rfl) ?_
  show pG m_D_addPart τ _ 0 0 0 [(0, _), (1, _)] [] _
  refine g_aload_n (pc := 0) d_D_addPart_0 rfl ?_
  refine gx_D_shelf (pc := 1) d_D_addPart_1 lf_D_18 ?_
  refine g_iload_n (pc := 4) d_D_addPart_4 rfl ?_
  refine g_callV (M' := m_S_behind) (pc := 5) (q := 2) d_D_addPart_5 lm_D_26 (c_S_behind k row hs hp hk) v_S_behind rfl rfl rfl (by decide) rfl (Nat.le_of_ble_eq_true rfl) ?_
  rintro _ _ ⟨rfl, rfl⟩
  show pG m_D_addPart τ _ 0 0 8 _ (.int _ :: _) _
  refine g_istore_n (pc := 8) [(2, _), (0, _), (1, _)] d_D_addPart_8 (by decide) rfl ?_
  refine g_iload_n (pc := 9) d_D_addPart_9 rfl ?_
  refine g_istore_n (pc := 10) [(3, _), (2, _), (0, _), (1, _)] d_D_addPart_10 (by decide) rfl ?_
  refine g_pick [0, 1, 2, 3] [(3, _), (2, _), (0, _), (1, _)] rfl ?_
  exact key row k d i r rfl hs hd DK.rf rfl
set_option maxRecDepth 100000 in
set_option maxHeartbeats 4000000 in
theorem c_D_beginWalk {τ : Nat × Nat} {a : Nat → Nat} {i : Nat → Int32} {r : Nat → Nat → Int32} {L : Nat → Int64} {wr : pW}  : pC m_D_beginWalk τ [.ref (a 3)] (wX a i r L ++ wr) ((fun rr w2 => ∃ i2 r2, rr = none ∧ w2 = wX a i2 r2 L ++ wr ∧ WK [0] i2 r2 ∧ WKp i r i2 r2)) := by
  refine pC.of rfl (Nat.le_of_ble_eq_true rfl) ?_
  show pG m_D_beginWalk τ _ 0 0 0 [(0, _)] [] _
  refine g_aload_n (pc := 0) d_D_beginWalk_0 rfl ?_
  refine gx_D_depths (pc := 1) d_D_beginWalk_1 lf_D_15 ?_
  refine g_iconst (pc := 4) (v := nI 0) d_D_beginWalk_4 (by decide) ?_
  refine g_iconst (pc := 5) (v := nI 0) d_D_beginWalk_5 (by decide) ?_
  refine gsx_D_depths (pc := 6) d_D_beginWalk_6 (vp_in_nI (by decide) (by decide)) ?_
  refine g_aload_n (pc := 7) d_D_beginWalk_7 rfl ?_
  refine g_iconst (pc := 8) (v := nI 1) d_D_beginWalk_8 (by decide) ?_
  refine gx_D_waiting_p (pc := 9) d_D_beginWalk_9 lf_D_69 ?_
  refine g_vret (pc := 12) d_D_beginWalk_12 rfl (Nat.le_refl _) (Nat.le_refl _) ?_
  exact ⟨_, _, rfl, rfl, ⟨pk_us, by decide, fun j x hj => by
    cases j with
    | zero =>
      simp at hj
      subst hj
      rw [up_s]
      rfl
    | succ j => simp at hj⟩, fun j hj => pk_un hj, fun j hj => up_n hj⟩
set_option maxRecDepth 100000 in
set_option maxHeartbeats 4000000 in
theorem c_D_walkOver {τ : Nat × Nat} {a : Nat → Nat} {i : Nat → Int32} {r : Nat → Nat → Int32} {L : Nat → Int64} {wr : pW} (dd : Nat) (s : List Nat) (x : Nat) (h : WK (dd :: s) i r) (hx : x < 4096) (hd : dd < 1000) (hl : s.length + kPt x ≤ 30) : pC m_D_walkOver τ [.ref (a 3), .int (nI x)] (wX a i r L ++ wr) ((fun rr w2 => ∃ i2 r2, rr = some (.int (nI dd)) ∧ w2 = wX a i2 r2 L ++ wr ∧ WK (nxt x dd s) i2 r2 ∧ WKp i r i2 r2)) := by
  have hw : i 3 = nI (s.length + 1) := h.1
  have h30 : s.length + 1 ≤ 30 := h.2.1
  have hpop := WK.pop (i2 := upd i 3 (nI s.length)) (r2 := r) h pk_us rfl
  have hq2 := kPt_le x
  generalize he : (if kBd x then dd + 1 else dd) = e
  have hN : nxt x dd s = List.replicate (kPt x) e ++ s := by rw [nxt, he]
  have key : ∀ (m z : Nat) (i1 : Nat → Int32) (r1 : Nat → Nat → Int32), kPt x - z = m → z ≤ kPt x → WK (List.replicate z e ++ s) i1 r1 → WKp i r i1 r1 → pG m_D_walkOver τ (fun rr w2 => ∃ i2 r2, rr = some (.int (nI dd)) ∧ w2 = wX a i2 r2 L ++ wr ∧ WK (nxt x dd s) i2 r2 ∧ WKp i r i2 r2) 0 0 45 [(4, .int (nI z)), (3, .int (nI e)), (2, .int (nI dd)), (0, .ref (a 3)), (1, .int (nI x))] [] (wX a i1 r1 L ++ wr) := by
    intro m
    induction m with
    | zero =>
      intro z i1 r1 hm hz hwk hkp
      refine g_iload (pc := 45) d_D_walkOver_45 rfl ?_
      refine g_iload_n (pc := 47) d_D_walkOver_47 rfl ?_
      refine g_callS (M' := m_O_parts) (pc := 48) d_D_walkOver_48 lm_D_76 (c_O_parts x hx) v_O_parts rfl (by decide) rfl (Nat.le_of_ble_eq_true rfl) ?_
      rintro _ _ ⟨rfl, rfl⟩
      show pG m_D_walkOver τ _ 0 0 51 _ (.int _ :: _) _
      refine g_nicmp_ge (pc := 51) (tgt := 89) d_D_walkOver_51 (by decide) (by omega) (by omega) (fun h51 => ?_) (fun h => absurd h (by omega))
      refine g_iload_n (pc := 89) d_D_walkOver_89 rfl ?_
      refine g_iret (pc := 90) d_D_walkOver_90 rfl (Nat.le_refl _) (Nat.le_refl _) ?_
      exact ⟨i1, r1, rfl, rfl, by rw [hN, show kPt x = z by omega]; exact hwk, hkp⟩
    | succ m ih =>
      intro z i1 r1 hm hz hwk hkp
      have hw1 : i1 3 = nI (z + s.length) := by have := hwk.1; simpa using this
      refine g_iload (pc := 45) d_D_walkOver_45 rfl ?_
      refine g_iload_n (pc := 47) d_D_walkOver_47 rfl ?_
      refine g_callS (M' := m_O_parts) (pc := 48) d_D_walkOver_48 lm_D_76 (c_O_parts x hx) v_O_parts rfl (by decide) rfl (Nat.le_of_ble_eq_true rfl) ?_
      rintro _ _ ⟨rfl, rfl⟩
      show pG m_D_walkOver τ _ 0 0 51 _ (.int _ :: _) _
      refine g_nicmp_ge (pc := 51) (tgt := 89) d_D_walkOver_51 (by decide) (by omega) (by omega) (fun h => absurd h (by omega)) (fun h51 => ?_)
      refine g_aload_n (pc := 54) d_D_walkOver_54 rfl ?_
      refine gx_D_waiting (pc := 55) d_D_walkOver_55 lf_D_69 ?_
      rw [hw1]
      refine g_bipush (pc := 58) (v := nI 30) d_D_walkOver_58 (by decide) ?_
      refine g_nicmp_ge (pc := 60) (tgt := 89) d_D_walkOver_60 (by decide) (by omega) (by omega) (fun h => absurd h (by omega)) (fun h60 => ?_)
      refine g_aload_n (pc := 63) d_D_walkOver_63 rfl ?_
      refine gx_D_depths (pc := 64) d_D_walkOver_64 lf_D_15 ?_
      refine g_aload_n (pc := 67) d_D_walkOver_67 rfl ?_
      refine gx_D_waiting (pc := 68) d_D_walkOver_68 lf_D_69 ?_
      rw [hw1]
      refine g_iload_n (pc := 71) d_D_walkOver_71 rfl ?_
      refine gsx_D_depths (pc := 72) d_D_walkOver_72 (vp_in_nI (by omega) (by decide)) ?_
      refine g_aload_n (pc := 73) d_D_walkOver_73 rfl ?_
      refine g_dup (pc := 74) d_D_walkOver_74 rfl ?_
      refine gx_D_waiting (pc := 75) d_D_walkOver_75 lf_D_69 ?_
      rw [hw1]
      refine g_iconst (pc := 78) (v := nI 1) d_D_walkOver_78 (by decide) ?_
      refine g_nadd (pc := 79) d_D_walkOver_79 ?_
      refine gx_D_waiting_p (pc := 80) d_D_walkOver_80 lf_D_69 ?_
      refine g_niinc (pc := 83) [(4, _), (3, _), (2, _), (0, _), (1, _)] d_D_walkOver_83 rfl (by decide) rfl ?_
      refine g_goto (pc := 86) (tgt := 45) d_D_walkOver_86 (by decide) ?_
      refine g_pick [0, 1, 2, 3, 4] [(4, _), (3, _), (2, _), (0, _), (1, _)] rfl ?_
      refine ih (z + 1) _ _ (by omega) (by omega) ?_ ⟨fun j hj => (pk_un hj).trans (hkp.1 j hj), fun j hj => (up_n hj).trans (hkp.2 j hj)⟩
      rw [List.replicate_succ, List.cons_append]
      refine WK.push hwk (by simp; omega) (by rw [pk_us]; simp) ?_
      rw [up_s, nI_clamp (by omega)]
      simp
  refine pC.of rfl (Nat.le_of_ble_eq_true rfl) ?_
  show pG m_D_walkOver τ _ 0 0 0 [(0, _), (1, _)] [] _
  refine g_aload_n (pc := 0) d_D_walkOver_0 rfl ?_
  refine gx_D_waiting (pc := 1) d_D_walkOver_1 lf_D_69 ?_
  rw [hw]
  refine g_nif_le (pc := 4) (tgt := 17) d_D_walkOver_4 (by decide) (by omega) (fun h => absurd h (by omega)) (fun h4 => ?_)
  refine g_aload_n (pc := 7) d_D_walkOver_7 rfl ?_
  refine g_dup (pc := 8) d_D_walkOver_8 rfl ?_
  refine gx_D_waiting (pc := 9) d_D_walkOver_9 lf_D_69 ?_
  rw [hw]
  refine g_iconst (pc := 12) (v := nI 1) d_D_walkOver_12 (by decide) ?_
  refine g_nsub (pc := 13) d_D_walkOver_13 (by omega) ?_
  rw [Nat.add_sub_cancel]
  refine gx_D_waiting_p (pc := 14) d_D_walkOver_14 lf_D_69 ?_
  refine g_aload_n (pc := 17) d_D_walkOver_17 rfl ?_
  refine gx_D_depths (pc := 18) d_D_walkOver_18 lf_D_15 ?_
  refine g_aload_n (pc := 21) d_D_walkOver_21 rfl ?_
  refine gx_D_waiting (pc := 22) d_D_walkOver_22 lf_D_69 ?_
  rw [pk_us]
  refine glx_D_depths (pc := 25) (v := nI dd) d_D_walkOver_25 (vp_in_nI (by omega) (by decide)) (by rw [nI_clamp (by omega)]; exact hpop.2) ?_
  refine g_istore_n (pc := 26) [(2, _), (0, _), (1, _)] d_D_walkOver_26 (by decide) rfl ?_
  refine g_iload_n (pc := 27) d_D_walkOver_27 rfl ?_
  refine g_callS (M' := m_O_binds) (pc := 28) d_D_walkOver_28 lm_D_72 (c_O_binds x hx) v_O_binds rfl (by decide) rfl (Nat.le_of_ble_eq_true rfl) ?_
  rintro _ _ ⟨rfl, rfl⟩
  show pG m_D_walkOver τ _ 0 0 31 _ (.int _ :: _) _
  refine g_ifb_eq (pc := 31) (tgt := 40) d_D_walkOver_31 (by decide) (fun h31 => ?_) (fun h31 => ?_)
  · refine g_iload_n (pc := 40) d_D_walkOver_40 rfl ?_
    refine g_topi (nI e) (by rw [← he]; simp [h31]) ?_
    refine g_istore_n (pc := 41) [(3, _), (2, _), (0, _), (1, _)] d_D_walkOver_41 (by decide) rfl ?_
    refine g_iconst (pc := 42) (v := nI 0) d_D_walkOver_42 (by decide) ?_
    refine g_istore (pc := 43) [(4, _), (3, _), (2, _), (0, _), (1, _)] d_D_walkOver_43 (by decide) rfl ?_
    refine g_pick [0, 1, 2, 3, 4] [(4, _), (3, _), (2, _), (0, _), (1, _)] rfl ?_
    exact key _ 0 _ _ rfl (Nat.zero_le _) hpop.1 ⟨fun j hj => pk_un hj, fun _ _ => rfl⟩
  · refine g_iload_n (pc := 34) d_D_walkOver_34 rfl ?_
    refine g_iconst (pc := 35) (v := nI 1) d_D_walkOver_35 (by decide) ?_
    refine g_nadd (pc := 36) d_D_walkOver_36 ?_
    refine g_goto (pc := 37) (tgt := 41) d_D_walkOver_37 (by decide) ?_
    refine g_topi (nI e) (by rw [← he]; simp [h31]) ?_
    refine g_istore_n (pc := 41) [(3, _), (2, _), (0, _), (1, _)] d_D_walkOver_41 (by decide) rfl ?_
    refine g_iconst (pc := 42) (v := nI 0) d_D_walkOver_42 (by decide) ?_
    refine g_istore (pc := 43) [(4, _), (3, _), (2, _), (0, _), (1, _)] d_D_walkOver_43 (by decide) rfl ?_
    refine g_pick [0, 1, 2, 3, 4] [(4, _), (3, _), (2, _), (0, _), (1, _)] rfl ?_
    exact key _ 0 _ _ rfl (Nat.zero_le _) hpop.1 ⟨fun j hj => pk_un hj, fun _ _ => rfl⟩
set_option maxRecDepth 100000 in
set_option maxHeartbeats 4000000 in
theorem c_D_addBinder {τ : Nat × Nat} {a : Nat → Nat} {i : Nat → Int32} {r : Nat → Nat → Int32} {L : Nat → Int64} {wr : pW} (d : List Nat) (tg ty v k : Nat) (row : List Nat) (htg : tg < 8) (hty : ty < 16) (hv : v < 4096) (hd : XD d i r) (hs : Seg (r 2) k row) (hp : Pol 1 row) (hk : k + row.length ≤ 1800) (hr : row.length ≤ 30) (hb : d.length + 31 < 100000) : pC m_D_addBinder τ [.ref (a 3), .int (nI tg), .int (nI ty), .int (nI v), .int (nI k)] (wX a i r L ++ wr) ((fun rr w2 => ∃ i2 r2, rr = none ∧ w2 = wX a i2 r2 L ++ wr ∧ XD (d ++ tok tg (v % 16) ty :: cls v [0] row) i2 r2 ∧ DW i r i2 r2)) := by
  have key : ∀ (rest : List Nat) (p : Nat) (sk d1 : List Nat) (i1 : Nat → Int32) (r1 : Nat → Nat → Int32), Pol sk.length rest → Seg (r 2) p rest → p + rest.length = k + row.length → (∀ e, e ∈ sk → e + rest.length ≤ 30) → WK sk i1 r1 → XD d1 i1 r1 → DW i r i1 r1 → d1 ++ cls v sk rest = d ++ tok tg (v % 16) ty :: cls v [0] row → d1.length + rest.length < 100000 → pG m_D_addBinder τ (fun rr w2 => ∃ i2 r2, rr = none ∧ w2 = wX a i2 r2 L ++ wr ∧ XD (d ++ tok tg (v % 16) ty :: cls v [0] row) i2 r2 ∧ DW i r i2 r2) 0 0 32 [(6, .int (nI p)), (5, .int (nI (k + row.length))), (0, .ref (a 3)), (1, .int (nI tg)), (2, .int (nI ty)), (3, .int (nI v)), (4, .int (nI k))] [] (wX a i1 r1 L ++ wr) := by
    intro rest
    induction rest with
    | nil =>
      intro p sk d1 i1 r1 hpo hsg he hsk hwk hx hdw hc hb1
      have he : p = k + row.length := he
      have hc : d1 ++ [] = d ++ tok tg (v % 16) ty :: cls v [0] row := by rw [← hc]; cases sk <;> rfl
      rw [List.append_nil] at hc
      refine g_iload (pc := 32) d_D_addBinder_32 rfl ?_
      refine g_iload (pc := 34) d_D_addBinder_34 rfl ?_
      refine g_nicmp_ge (pc := 36) (tgt := 89) d_D_addBinder_36 (by decide) (by omega) (by omega) (fun h36 => ?_) (fun h => absurd h (by omega))
      refine g_vret (pc := 89) d_D_addBinder_89 rfl (Nat.le_refl _) (Nat.le_refl _) ?_
      exact ⟨i1, r1, rfl, rfl, by rw [← hc]; exact hx, hdw⟩
    | cons t rest ih =>
      intro p sk d1 i1 r1 hpo hsg he hsk hwk hx hdw hc hb1
      obtain ⟨m, hm, hpo2⟩ := Pol_cons hpo
      obtain ⟨⟨ht1, ht2⟩, hsg2⟩ := Seg_cons hsg
      have he2 : p + 1 + rest.length = k + row.length := by simp at he; omega
      cases sk with
      | nil => simp at hm
      | cons dd s =>
        have hs2 : s.length = m := by simpa using hm
        subst hs2
        have hle := Pol_le hpo2
        have hdd := hsk dd (List.mem_cons_self)
        simp only [List.length_cons] at hdd hb1 he
        have hsk2 : ∀ e, e ∈ nxt t dd s → e + rest.length ≤ 30 := by
          intro e he
          rcases List.mem_append.mp he with h | h
          · have := List.eq_of_mem_replicate h
            rw [this]
            split <;> omega
          · have := hsk e (List.mem_cons_of_mem _ h)
            simp only [List.length_cons] at this
            omega
        have hpo3 : Pol (nxt t dd s).length rest := by
          rw [nxt, List.length_append, List.length_replicate, Nat.add_comm]
          exact hpo2
        refine g_iload (pc := 32) d_D_addBinder_32 rfl ?_
        refine g_iload (pc := 34) d_D_addBinder_34 rfl ?_
        refine g_nicmp_ge (pc := 36) (tgt := 89) d_D_addBinder_36 (by decide) (by omega) (by omega) (fun h => absurd h (by omega)) (fun h36 => ?_)
        refine g_aload_n (pc := 39) d_D_addBinder_39 rfl ?_
        refine gx_D_shelf (pc := 40) d_D_addBinder_40 lf_D_18 ?_
        refine g_iload (pc := 43) d_D_addBinder_43 rfl ?_
        refine g_callV (M' := m_S_token) (pc := 45) (q := 2) d_D_addBinder_45 lm_D_32 (c_S_token p t (by omega) (by rw [hdw.2 2 (by decide) (by decide)]; exact ht1)) v_S_token rfl rfl rfl (by decide) rfl (Nat.le_of_ble_eq_true rfl) ?_
        rintro _ _ ⟨rfl, rfl⟩
        show pG m_D_addBinder τ _ 0 0 48 _ (.int _ :: _) _
        refine g_istore (pc := 48) [(7, _), (6, _), (5, _), (0, _), (1, _), (2, _), (3, _), (4, _)] d_D_addBinder_48 (by decide) rfl ?_
        refine g_aload_n (pc := 50) d_D_addBinder_50 rfl ?_
        refine g_iload (pc := 51) d_D_addBinder_51 rfl ?_
        refine g_callV (M' := m_D_walkOver) (pc := 53) (q := 3) d_D_addBinder_53 lm_D_51 (c_D_walkOver dd s t hwk ht2 (by omega) (by omega)) v_D_walkOver rfl rfl rfl (by decide) rfl (Nat.le_of_ble_eq_true rfl) ?_
        rintro _ _ ⟨iw, rw_, rfl, rfl, hwk2, hkp2⟩
        show pG m_D_addBinder τ _ 0 0 56 _ (.int _ :: _) _
        refine g_istore (pc := 56) [(8, _), (7, _), (6, _), (5, _), (0, _), (1, _), (2, _), (3, _), (4, _)] d_D_addBinder_56 (by decide) rfl ?_
        refine g_aload_n (pc := 58) d_D_addBinder_58 rfl ?_
        refine g_iload (pc := 59) d_D_addBinder_59 rfl ?_
        refine g_iload_n (pc := 61) d_D_addBinder_61 rfl ?_
        refine g_nicmp_ne (pc := 62) (tgt := 78) d_D_addBinder_62 (by decide) (by omega) (by omega) (fun h62 => ?_) (fun h62 => ?_)
        · refine g_iload (pc := 78) d_D_addBinder_78 rfl ?_
          refine g_callV (M' := m_D_add) (pc := 80) (q := 3) d_D_addBinder_80 lm_D_35 (c_D_add d1 _ (hx.mv (hkp2.1 2 (by decide)) (hkp2.2 4 (by decide))) (by omega)) v_D_add rfl rfl rfl (by decide) rfl (Nat.le_of_ble_eq_true rfl) ?_
          rintro _ _ ⟨i2, r2, rfl, rfl, hx2, hk2⟩
          show pG m_D_addBinder τ _ 0 0 83 _ _ _
          refine g_niinc (pc := 83) [(6, _), (8, _), (7, _), (5, _), (0, _), (1, _), (2, _), (3, _), (4, _)] d_D_addBinder_83 rfl (by decide) rfl ?_
          refine g_goto (pc := 86) (tgt := 32) d_D_addBinder_86 (by decide) ?_
          refine g_pick [0, 3, 4, 5, 6, 7, 8] [(6, _), (5, _), (0, _), (1, _), (2, _), (3, _), (4, _)] rfl ?_
          exact ih (p + 1) (nxt t dd s) _ i2 r2 hpo3 hsg2 he2 hsk2 (hwk2.mv (hk2.1 3 (by decide)) (hk2.2 5 (by decide))) hx2 (hdw.tr (hkp2.w.tr hk2.w)) (by rw [List.append_assoc, ← hc]; simp [cls, h62]) (by simp; omega)
        · refine g_iconst (pc := 65) (v := nI 2) d_D_addBinder_65 (by decide) ?_
          refine g_iload (pc := 66) d_D_addBinder_66 rfl ?_
          refine g_iload_n (pc := 68) d_D_addBinder_68 rfl ?_
          refine g_callS (M' := m_O_type) (pc := 69) d_D_addBinder_69 lm_D_39 (c_O_type v hv) v_O_type rfl (by decide) rfl (Nat.le_of_ble_eq_true rfl) ?_
          rintro _ _ ⟨rfl, rfl⟩
          show pG m_D_addBinder τ _ 0 0 72 _ (.int _ :: _) _
          refine g_callS (M' := m_O_of) (pc := 72) d_D_addBinder_72 lm_D_44 (c_O_of 2 dd (v % 16) (by decide) (by omega) (by omega)) v_O_of rfl (by decide) rfl (Nat.le_of_ble_eq_true rfl) ?_
          rintro _ _ ⟨rfl, rfl⟩
          show pG m_D_addBinder τ _ 0 0 75 _ (.int _ :: _) _
          refine g_goto (pc := 75) (tgt := 80) d_D_addBinder_75 (by decide) ?_
          refine g_callV (M' := m_D_add) (pc := 80) (q := 3) d_D_addBinder_80 lm_D_35 (c_D_add d1 _ (hx.mv (hkp2.1 2 (by decide)) (hkp2.2 4 (by decide))) (by omega)) v_D_add rfl rfl rfl (by decide) rfl (Nat.le_of_ble_eq_true rfl) ?_
          rintro _ _ ⟨i2, r2, rfl, rfl, hx2, hk2⟩
          show pG m_D_addBinder τ _ 0 0 83 _ _ _
          refine g_niinc (pc := 83) [(6, _), (8, _), (7, _), (5, _), (0, _), (1, _), (2, _), (3, _), (4, _)] d_D_addBinder_83 rfl (by decide) rfl ?_
          refine g_goto (pc := 86) (tgt := 32) d_D_addBinder_86 (by decide) ?_
          refine g_pick [0, 3, 4, 5, 6, 7, 8] [(6, _), (5, _), (0, _), (1, _), (2, _), (3, _), (4, _)] rfl ?_
          exact ih (p + 1) (nxt t dd s) _ i2 r2 hpo3 hsg2 he2 hsk2 (hwk2.mv (hk2.1 3 (by decide)) (hk2.2 5 (by decide))) hx2 (hdw.tr (hkp2.w.tr hk2.w)) (by rw [List.append_assoc, ← hc]; simp [cls, h62]) (by simp; omega)
  refine pC.of rfl (Nat.le_of_ble_eq_true rfl) ?_
  show pG m_D_addBinder τ _ 0 0 0 [(0, _), (1, _), (2, _), (3, _), (4, _)] [] _
  refine g_aload_n (pc := 0) d_D_addBinder_0 rfl ?_
  refine g_iload_n (pc := 1) d_D_addBinder_1 rfl ?_
  refine g_iload_n (pc := 2) d_D_addBinder_2 rfl ?_
  refine g_callS (M' := m_O_type) (pc := 3) d_D_addBinder_3 lm_D_39 (c_O_type v hv) v_O_type rfl (by decide) rfl (Nat.le_of_ble_eq_true rfl) ?_
  rintro _ _ ⟨rfl, rfl⟩
  show pG m_D_addBinder τ _ 0 0 6 _ (.int _ :: _) _
  refine g_iload_n (pc := 6) d_D_addBinder_6 rfl ?_
  refine g_callS (M' := m_O_of) (pc := 7) d_D_addBinder_7 lm_D_44 (c_O_of tg (v % 16) ty htg (by omega) hty) v_O_of rfl (by decide) rfl (Nat.le_of_ble_eq_true rfl) ?_
  rintro _ _ ⟨rfl, rfl⟩
  show pG m_D_addBinder τ _ 0 0 10 _ (.int _ :: _) _
  refine g_callV (M' := m_D_add) (pc := 10) (q := 3) d_D_addBinder_10 lm_D_35 (c_D_add d _ hd (by omega)) v_D_add rfl rfl rfl (by decide) rfl (Nat.le_of_ble_eq_true rfl) ?_
  rintro _ _ ⟨i2, r2, rfl, rfl, hx2, hk2⟩
  show pG m_D_addBinder τ _ 0 0 13 _ _ _
  refine g_aload_n (pc := 13) d_D_addBinder_13 rfl ?_
  refine gx_D_shelf (pc := 14) d_D_addBinder_14 lf_D_18 ?_
  refine g_iload (pc := 17) d_D_addBinder_17 rfl ?_
  refine g_callV (M' := m_S_behind) (pc := 19) (q := 2) d_D_addBinder_19 lm_D_26 (c_S_behind k row (by rw [hk2.2 2 (by decide)]; exact hs) hp hk) v_S_behind rfl rfl rfl (by decide) rfl (Nat.le_of_ble_eq_true rfl) ?_
  rintro _ _ ⟨rfl, rfl⟩
  show pG m_D_addBinder τ _ 0 0 22 _ (.int _ :: _) _
  refine g_istore (pc := 22) [(5, _), (0, _), (1, _), (2, _), (3, _), (4, _)] d_D_addBinder_22 (by decide) rfl ?_
  refine g_aload_n (pc := 24) d_D_addBinder_24 rfl ?_
  refine g_callV (M' := m_D_beginWalk) (pc := 25) (q := 3) d_D_addBinder_25 lm_D_48 (c_D_beginWalk) v_D_beginWalk rfl rfl rfl (by decide) rfl (Nat.le_of_ble_eq_true rfl) ?_
  rintro _ _ ⟨iw, rw_, rfl, rfl, hwk2, hkp2⟩
  show pG m_D_addBinder τ _ 0 0 28 _ _ _
  refine g_iload (pc := 28) d_D_addBinder_28 rfl ?_
  refine g_istore (pc := 30) [(6, _), (5, _), (0, _), (1, _), (2, _), (3, _), (4, _)] d_D_addBinder_30 (by decide) rfl ?_
  refine g_pick [0, 1, 2, 3, 4, 5, 6] [(6, _), (5, _), (0, _), (1, _), (2, _), (3, _), (4, _)] rfl ?_
  exact key row k [0] (d ++ [tok tg (v % 16) ty]) _ _ hp hs rfl (fun e he => by simp at he; subst he; omega) hwk2 (hx2.mv (hkp2.1 2 (by decide)) (hkp2.2 4 (by decide))) (hk2.w.tr hkp2.w) (by simp) (by simp; omega)
set_option maxRecDepth 100000 in
set_option maxHeartbeats 4000000 in
theorem c_D_addFilling {τ : Nat × Nat} {a : Nat → Nat} {i : Nat → Int32} {r : Nat → Nat → Int32} {L : Nat → Int64} {wr : pW} (d : List Nat) (k kf : Nat) (row f : List Nat) (hd : XD d i r) (hs : Seg (r 2) k row) (hp : Pol 1 row) (hk : k + row.length ≤ 1800) (hr : row.length ≤ 30) (hsf : Seg (r 2) kf f) (hpf : Pol 1 f) (hkf : kf + f.length ≤ 1800) (hrf : f.length ≤ 30) (hb : d.length + 900 < 100000) : pC m_D_addFilling τ [.ref (a 3), .int (nI k), .int (nI kf)] (wX a i r L ++ wr) ((fun rr w2 => ∃ i2 r2, rr = none ∧ w2 = wX a i2 r2 L ++ wr ∧ XD (d ++ fil f [0] row) i2 r2 ∧ DW i r i2 r2)) := by
  have key : ∀ (rest : List Nat) (p : Nat) (sk d1 : List Nat) (i1 : Nat → Int32) (r1 : Nat → Nat → Int32), Pol sk.length rest → Seg (r 2) p rest → p + rest.length = k + row.length → (∀ e, e ∈ sk → e + rest.length ≤ 30) → WK sk i1 r1 → XD d1 i1 r1 → DW i r i1 r1 → d1 ++ fil f sk rest = d ++ fil f [0] row → d1.length + 30 * rest.length < 100000 → pG m_D_addFilling τ (fun rr w2 => ∃ i2 r2, rr = none ∧ w2 = wX a i2 r2 L ++ wr ∧ XD (d ++ fil f [0] row) i2 r2 ∧ DW i r i2 r2) 0 0 16 [(4, .int (nI p)), (3, .int (nI (k + row.length))), (0, .ref (a 3)), (1, .int (nI k)), (2, .int (nI kf))] [] (wX a i1 r1 L ++ wr) := by
    intro rest
    induction rest with
    | nil =>
      intro p sk d1 i1 r1 hpo hsg he hsk hwk hx hdw hc hb1
      have he : p = k + row.length := he
      have hc : d1 ++ [] = d ++ fil f [0] row := by rw [← hc]; cases sk <;> rfl
      rw [List.append_nil] at hc
      refine g_iload (pc := 16) d_D_addFilling_16 rfl ?_
      refine g_iload_n (pc := 18) d_D_addFilling_18 rfl ?_
      refine g_nicmp_ge (pc := 19) (tgt := 80) d_D_addFilling_19 (by decide) (by omega) (by omega) (fun h19 => ?_) (fun h => absurd h (by omega))
      refine g_vret (pc := 80) d_D_addFilling_80 rfl (Nat.le_refl _) (Nat.le_refl _) ?_
      exact ⟨i1, r1, rfl, rfl, by rw [← hc]; exact hx, hdw⟩
    | cons t rest ih =>
      intro p sk d1 i1 r1 hpo hsg he hsk hwk hx hdw hc hb1
      obtain ⟨m, hm, hpo2⟩ := Pol_cons hpo
      obtain ⟨⟨ht1, ht2⟩, hsg2⟩ := Seg_cons hsg
      have he2 : p + 1 + rest.length = k + row.length := by simp at he; omega
      cases sk with
      | nil => simp at hm
      | cons dd s =>
        have hs2 : s.length = m := by simpa using hm
        subst hs2
        have hle := Pol_le hpo2
        have hdd := hsk dd (List.mem_cons_self)
        simp only [List.length_cons] at hdd hb1 he
        have hsk2 : ∀ e, e ∈ nxt t dd s → e + rest.length ≤ 30 := by
          intro e he
          rcases List.mem_append.mp he with h | h
          · have := List.eq_of_mem_replicate h
            rw [this]
            split <;> omega
          · have := hsk e (List.mem_cons_of_mem _ h)
            simp only [List.length_cons] at this
            omega
        have hpo3 : Pol (nxt t dd s).length rest := by
          rw [nxt, List.length_append, List.length_replicate, Nat.add_comm]
          exact hpo2
        refine g_iload (pc := 16) d_D_addFilling_16 rfl ?_
        refine g_iload_n (pc := 18) d_D_addFilling_18 rfl ?_
        refine g_nicmp_ge (pc := 19) (tgt := 80) d_D_addFilling_19 (by decide) (by omega) (by omega) (fun h => absurd h (by omega)) (fun h19 => ?_)
        refine g_aload_n (pc := 22) d_D_addFilling_22 rfl ?_
        refine gx_D_shelf (pc := 23) d_D_addFilling_23 lf_D_18 ?_
        refine g_iload (pc := 26) d_D_addFilling_26 rfl ?_
        refine g_callV (M' := m_S_token) (pc := 28) (q := 2) d_D_addFilling_28 lm_D_32 (c_S_token p t (by omega) (by rw [hdw.2 2 (by decide) (by decide)]; exact ht1)) v_S_token rfl rfl rfl (by decide) rfl (Nat.le_of_ble_eq_true rfl) ?_
        rintro _ _ ⟨rfl, rfl⟩
        show pG m_D_addFilling τ _ 0 0 31 _ (.int _ :: _) _
        refine g_istore (pc := 31) [(5, _), (4, _), (3, _), (0, _), (1, _), (2, _)] d_D_addFilling_31 (by decide) rfl ?_
        refine g_aload_n (pc := 33) d_D_addFilling_33 rfl ?_
        refine g_iload (pc := 34) d_D_addFilling_34 rfl ?_
        refine g_callV (M' := m_D_walkOver) (pc := 36) (q := 3) d_D_addFilling_36 lm_D_51 (c_D_walkOver dd s t hwk ht2 (by omega) (by omega)) v_D_walkOver rfl rfl rfl (by decide) rfl (Nat.le_of_ble_eq_true rfl) ?_
        rintro _ _ ⟨iw, rw_, rfl, rfl, hwk2, hkp2⟩
        show pG m_D_addFilling τ _ 0 0 39 _ (.int _ :: _) _
        refine g_istore (pc := 39) [(6, _), (5, _), (4, _), (3, _), (0, _), (1, _), (2, _)] d_D_addFilling_39 (by decide) rfl ?_
        refine g_iload (pc := 41) d_D_addFilling_41 rfl ?_
        refine g_callS (M' := m_O_tag) (pc := 43) d_D_addFilling_43 lm_D_54 (c_O_tag t ht2) v_O_tag rfl (by decide) rfl (Nat.le_of_ble_eq_true rfl) ?_
        rintro _ _ ⟨rfl, rfl⟩
        show pG m_D_addFilling τ _ 0 0 46 _ (.int _ :: _) _
        refine g_iconst (pc := 46) (v := nI 2) d_D_addFilling_46 (by decide) ?_
        refine g_nicmp_ne (pc := 47) (tgt := 68) d_D_addFilling_47 (by decide) (by omega) (by omega) (fun h47 => ?_) (fun h47 => ?_)
        · refine g_aload_n (pc := 68) d_D_addFilling_68 rfl ?_
          refine g_iload (pc := 69) d_D_addFilling_69 rfl ?_
          refine g_callV (M' := m_D_add) (pc := 71) (q := 3) d_D_addFilling_71 lm_D_35 (c_D_add d1 t (hx.mv (hkp2.1 2 (by decide)) (hkp2.2 4 (by decide))) (by omega)) v_D_add rfl rfl rfl (by decide) rfl (Nat.le_of_ble_eq_true rfl) ?_
          rintro _ _ ⟨i2, r2, rfl, rfl, hx2, hk2⟩
          show pG m_D_addFilling τ _ 0 0 74 _ _ _
          refine g_niinc (pc := 74) [(4, _), (6, _), (5, _), (3, _), (0, _), (1, _), (2, _)] d_D_addFilling_74 rfl (by decide) rfl ?_
          refine g_goto (pc := 77) (tgt := 16) d_D_addFilling_77 (by decide) ?_
          refine g_pick [0, 3, 4, 5, 6] [(4, _), (3, _), (0, _), (1, _), (2, _)] rfl ?_
          exact ih (p + 1) (nxt t dd s) _ i2 r2 hpo3 hsg2 he2 hsk2 (hwk2.mv (hk2.1 3 (by decide)) (hk2.2 5 (by decide))) hx2 (hdw.tr (hkp2.w.tr hk2.w)) (by rw [List.append_assoc, ← hc]; first | simp [fil, h47, h57] | simp [fil, h47]) (by simp; omega)
        · refine g_iload (pc := 50) d_D_addFilling_50 rfl ?_
          refine g_callS (M' := m_O_info) (pc := 52) d_D_addFilling_52 lm_D_57 (c_O_info t ht2) v_O_info rfl (by decide) rfl (Nat.le_of_ble_eq_true rfl) ?_
          rintro _ _ ⟨rfl, rfl⟩
          show pG m_D_addFilling τ _ 0 0 55 _ (.int _ :: _) _
          refine g_iload (pc := 55) d_D_addFilling_55 rfl ?_
          refine g_nicmp_ne (pc := 57) (tgt := 68) d_D_addFilling_57 (by decide) (by omega) (by omega) (fun h57 => ?_) (fun h57 => ?_)
          · refine g_aload_n (pc := 68) d_D_addFilling_68 rfl ?_
            refine g_iload (pc := 69) d_D_addFilling_69 rfl ?_
            refine g_callV (M' := m_D_add) (pc := 71) (q := 3) d_D_addFilling_71 lm_D_35 (c_D_add d1 t (hx.mv (hkp2.1 2 (by decide)) (hkp2.2 4 (by decide))) (by omega)) v_D_add rfl rfl rfl (by decide) rfl (Nat.le_of_ble_eq_true rfl) ?_
            rintro _ _ ⟨i2, r2, rfl, rfl, hx2, hk2⟩
            show pG m_D_addFilling τ _ 0 0 74 _ _ _
            refine g_niinc (pc := 74) [(4, _), (6, _), (5, _), (3, _), (0, _), (1, _), (2, _)] d_D_addFilling_74 rfl (by decide) rfl ?_
            refine g_goto (pc := 77) (tgt := 16) d_D_addFilling_77 (by decide) ?_
            refine g_pick [0, 3, 4, 5, 6] [(4, _), (3, _), (0, _), (1, _), (2, _)] rfl ?_
            exact ih (p + 1) (nxt t dd s) _ i2 r2 hpo3 hsg2 he2 hsk2 (hwk2.mv (hk2.1 3 (by decide)) (hk2.2 5 (by decide))) hx2 (hdw.tr (hkp2.w.tr hk2.w)) (by rw [List.append_assoc, ← hc]; first | simp [fil, h47, h57] | simp [fil, h47]) (by simp; omega)
          · refine g_aload_n (pc := 60) d_D_addFilling_60 rfl ?_
            refine g_iload_n (pc := 61) d_D_addFilling_61 rfl ?_
            refine g_callV (M' := m_D_addPart) (pc := 62) (q := 3) d_D_addFilling_62 lm_D_60 (c_D_addPart d1 kf f (hx.mv (hkp2.1 2 (by decide)) (hkp2.2 4 (by decide))) (by rw [hkp2.2 2 (by decide), hdw.2 2 (by decide) (by decide)]; exact hsf) hpf hkf (by omega)) v_D_addPart rfl rfl rfl (by decide) rfl (Nat.le_of_ble_eq_true rfl) ?_
            rintro _ _ ⟨i2, r2, rfl, rfl, hx2, hk2⟩
            show pG m_D_addFilling τ _ 0 0 65 _ _ _
            refine g_goto (pc := 65) (tgt := 74) d_D_addFilling_65 (by decide) ?_
            refine g_niinc (pc := 74) [(4, _), (6, _), (5, _), (3, _), (0, _), (1, _), (2, _)] d_D_addFilling_74 rfl (by decide) rfl ?_
            refine g_goto (pc := 77) (tgt := 16) d_D_addFilling_77 (by decide) ?_
            refine g_pick [0, 3, 4, 5, 6] [(4, _), (3, _), (0, _), (1, _), (2, _)] rfl ?_
            exact ih (p + 1) (nxt t dd s) _ i2 r2 hpo3 hsg2 he2 hsk2 (hwk2.mv (hk2.1 3 (by decide)) (hk2.2 5 (by decide))) hx2 (hdw.tr (hkp2.w.tr hk2.w)) (by rw [List.append_assoc, ← hc]; first | simp [fil, h47, h57] | simp [fil, h47]) (by simp; omega)
  refine pC.of rfl (Nat.le_of_ble_eq_true rfl) ?_
  show pG m_D_addFilling τ _ 0 0 0 [(0, _), (1, _), (2, _)] [] _
  refine g_aload_n (pc := 0) d_D_addFilling_0 rfl ?_
  refine gx_D_shelf (pc := 1) d_D_addFilling_1 lf_D_18 ?_
  refine g_iload_n (pc := 4) d_D_addFilling_4 rfl ?_
  refine g_callV (M' := m_S_behind) (pc := 5) (q := 2) d_D_addFilling_5 lm_D_26 (c_S_behind k row hs hp hk) v_S_behind rfl rfl rfl (by decide) rfl (Nat.le_of_ble_eq_true rfl) ?_
  rintro _ _ ⟨rfl, rfl⟩
  show pG m_D_addFilling τ _ 0 0 8 _ (.int _ :: _) _
  refine g_istore_n (pc := 8) [(3, _), (0, _), (1, _), (2, _)] d_D_addFilling_8 (by decide) rfl ?_
  refine g_aload_n (pc := 9) d_D_addFilling_9 rfl ?_
  refine g_callV (M' := m_D_beginWalk) (pc := 10) (q := 3) d_D_addFilling_10 lm_D_48 (c_D_beginWalk) v_D_beginWalk rfl rfl rfl (by decide) rfl (Nat.le_of_ble_eq_true rfl) ?_
  rintro _ _ ⟨iw, rw_, rfl, rfl, hwk2, hkp2⟩
  show pG m_D_addFilling τ _ 0 0 13 _ _ _
  refine g_iload_n (pc := 13) d_D_addFilling_13 rfl ?_
  refine g_istore (pc := 14) [(4, _), (3, _), (0, _), (1, _), (2, _)] d_D_addFilling_14 (by decide) rfl ?_
  refine g_pick [0, 1, 2, 3, 4] [(4, _), (3, _), (0, _), (1, _), (2, _)] rfl ?_
  exact key row k [0] d _ _ hp hs rfl (fun e he => by simp at he; subst he; omega) hwk2 (hd.mv (hkp2.1 2 (by decide)) (hkp2.2 4 (by decide))) hkp2.w rfl (by omega)
set_option maxRecDepth 100000 in
set_option maxHeartbeats 4000000 in
theorem c_D_addReplacing {τ : Nat × Nat} {a : Nat → Nat} {i : Nat → Int32} {r : Nat → Nat → Int32} {L : Nat → Int64} {wr : pW} (d : List Nat) (k v kf : Nat) (row f : List Nat) (hv : v < 4096) (hd : XD d i r) (hs : Seg (r 2) k row) (hp : Pol 1 row) (hk : k + row.length ≤ 1800) (hr : row.length ≤ 30) (hsf : Seg (r 2) kf f) (hpf : Pol 1 f) (hkf : kf + f.length ≤ 1800) (hrf : f.length ≤ 30) (hb : d.length + 900 < 100000) : pC m_D_addReplacing τ [.ref (a 3), .int (nI k), .int (nI v), .int (nI kf)] (wX a i r L ++ wr) ((fun rr w2 => ∃ i2 r2, rr = none ∧ w2 = wX a i2 r2 L ++ wr ∧ XD (d ++ rpl v f row) i2 r2 ∧ DK i r i2 r2)) := by
  have key : ∀ (rest : List Nat) (p : Nat) (d1 : List Nat) (i1 : Nat → Int32) (r1 : Nat → Nat → Int32), Seg (r 2) p rest → p + rest.length = k + row.length → XD d1 i1 r1 → DK i r i1 r1 → d1 ++ rpl v f rest = d ++ rpl v f row → d1.length + 30 * rest.length < 100000 → pG m_D_addReplacing τ (fun rr w2 => ∃ i2 r2, rr = none ∧ w2 = wX a i2 r2 L ++ wr ∧ XD (d ++ rpl v f row) i2 r2 ∧ DK i r i2 r2) 0 0 13 [(5, .int (nI p)), (4, .int (nI (k + row.length))), (0, .ref (a 3)), (1, .int (nI k)), (2, .int (nI v)), (3, .int (nI kf))] [] (wX a i1 r1 L ++ wr) := by
    intro rest
    induction rest with
    | nil =>
      intro p d1 i1 r1 hsg he hx hdw hc hb1
      have he : p = k + row.length := he
      have hc : d1 ++ [] = d ++ rpl v f row := hc
      rw [List.append_nil] at hc
      refine g_iload (pc := 13) d_D_addReplacing_13 rfl ?_
      refine g_iload (pc := 15) d_D_addReplacing_15 rfl ?_
      refine g_nicmp_ge (pc := 17) (tgt := 60) d_D_addReplacing_17 (by decide) (by omega) (by omega) (fun h17 => ?_) (fun h => absurd h (by omega))
      refine g_vret (pc := 60) d_D_addReplacing_60 rfl (Nat.le_refl _) (Nat.le_refl _) ?_
      exact ⟨i1, r1, rfl, rfl, by rw [← hc]; exact hx, hdw⟩
    | cons t rest ih =>
      intro p d1 i1 r1 hsg he hx hdw hc hb1
      obtain ⟨⟨ht1, ht2⟩, hsg2⟩ := Seg_cons hsg
      have he2 : p + 1 + rest.length = k + row.length := by simp at he; omega
      simp only [List.length_cons] at hb1 he
      refine g_iload (pc := 13) d_D_addReplacing_13 rfl ?_
      refine g_iload (pc := 15) d_D_addReplacing_15 rfl ?_
      refine g_nicmp_ge (pc := 17) (tgt := 60) d_D_addReplacing_17 (by decide) (by omega) (by omega) (fun h => absurd h (by omega)) (fun h17 => ?_)
      refine g_aload_n (pc := 20) d_D_addReplacing_20 rfl ?_
      refine gx_D_shelf (pc := 21) d_D_addReplacing_21 lf_D_18 ?_
      refine g_iload (pc := 24) d_D_addReplacing_24 rfl ?_
      refine g_callV (M' := m_S_token) (pc := 26) (q := 2) d_D_addReplacing_26 lm_D_32 (c_S_token p t (by omega) (by rw [hdw.2 2 (by decide)]; exact ht1)) v_S_token rfl rfl rfl (by decide) rfl (Nat.le_of_ble_eq_true rfl) ?_
      rintro _ _ ⟨rfl, rfl⟩
      show pG m_D_addReplacing τ _ 0 0 29 _ (.int _ :: _) _
      refine g_iload_n (pc := 29) d_D_addReplacing_29 rfl ?_
      refine g_nicmp_ne (pc := 30) (tgt := 41) d_D_addReplacing_30 (by decide) (by omega) (by omega) (fun h30 => ?_) (fun h30 => ?_)
      · refine g_aload_n (pc := 41) d_D_addReplacing_41 rfl ?_
        refine g_aload_n (pc := 42) d_D_addReplacing_42 rfl ?_
        refine gx_D_shelf (pc := 43) d_D_addReplacing_43 lf_D_18 ?_
        refine g_iload (pc := 46) d_D_addReplacing_46 rfl ?_
        refine g_callV (M' := m_S_token) (pc := 48) (q := 2) d_D_addReplacing_48 lm_D_32 (c_S_token p t (by omega) (by rw [hdw.2 2 (by decide)]; exact ht1)) v_S_token rfl rfl rfl (by decide) rfl (Nat.le_of_ble_eq_true rfl) ?_
        rintro _ _ ⟨rfl, rfl⟩
        show pG m_D_addReplacing τ _ 0 0 51 _ (.int _ :: _) _
        refine g_callV (M' := m_D_add) (pc := 51) (q := 3) d_D_addReplacing_51 lm_D_35 (c_D_add d1 t hx (by omega)) v_D_add rfl rfl rfl (by decide) rfl (Nat.le_of_ble_eq_true rfl) ?_
        rintro _ _ ⟨i2, r2, rfl, rfl, hx2, hk2⟩
        show pG m_D_addReplacing τ _ 0 0 54 _ _ _
        refine g_niinc (pc := 54) [(5, _), (4, _), (0, _), (1, _), (2, _), (3, _)] d_D_addReplacing_54 rfl (by decide) rfl ?_
        refine g_goto (pc := 57) (tgt := 13) d_D_addReplacing_57 (by decide) ?_
        refine g_pick [0, 1, 2, 3, 4, 5] [(5, _), (4, _), (0, _), (1, _), (2, _), (3, _)] rfl ?_
        exact ih (p + 1) _ i2 r2 hsg2 he2 hx2 (hdw.tr hk2) (by rw [List.append_assoc, ← hc]; simp [rpl, h30]) (by simp; omega)
      · refine g_aload_n (pc := 33) d_D_addReplacing_33 rfl ?_
        refine g_iload_n (pc := 34) d_D_addReplacing_34 rfl ?_
        refine g_callV (M' := m_D_addPart) (pc := 35) (q := 3) d_D_addReplacing_35 lm_D_60 (c_D_addPart d1 kf f hx (by rw [hdw.2 2 (by decide)]; exact hsf) hpf hkf (by omega)) v_D_addPart rfl rfl rfl (by decide) rfl (Nat.le_of_ble_eq_true rfl) ?_
        rintro _ _ ⟨i2, r2, rfl, rfl, hx2, hk2⟩
        show pG m_D_addReplacing τ _ 0 0 38 _ _ _
        refine g_goto (pc := 38) (tgt := 54) d_D_addReplacing_38 (by decide) ?_
        refine g_niinc (pc := 54) [(5, _), (4, _), (0, _), (1, _), (2, _), (3, _)] d_D_addReplacing_54 rfl (by decide) rfl ?_
        refine g_goto (pc := 57) (tgt := 13) d_D_addReplacing_57 (by decide) ?_
        refine g_pick [0, 1, 2, 3, 4, 5] [(5, _), (4, _), (0, _), (1, _), (2, _), (3, _)] rfl ?_
        exact ih (p + 1) _ i2 r2 hsg2 he2 hx2 (hdw.tr hk2) (by rw [List.append_assoc, ← hc]; simp [rpl, h30]) (by simp; omega)
  refine pC.of rfl (Nat.le_of_ble_eq_true rfl) ?_
  show pG m_D_addReplacing τ _ 0 0 0 [(0, _), (1, _), (2, _), (3, _)] [] _
  refine g_aload_n (pc := 0) d_D_addReplacing_0 rfl ?_
  refine gx_D_shelf (pc := 1) d_D_addReplacing_1 lf_D_18 ?_
  refine g_iload_n (pc := 4) d_D_addReplacing_4 rfl ?_
  refine g_callV (M' := m_S_behind) (pc := 5) (q := 2) d_D_addReplacing_5 lm_D_26 (c_S_behind k row hs hp hk) v_S_behind rfl rfl rfl (by decide) rfl (Nat.le_of_ble_eq_true rfl) ?_
  rintro _ _ ⟨rfl, rfl⟩
  show pG m_D_addReplacing τ _ 0 0 8 _ (.int _ :: _) _
  refine g_istore (pc := 8) [(4, _), (0, _), (1, _), (2, _), (3, _)] d_D_addReplacing_8 (by decide) rfl ?_
  refine g_iload_n (pc := 10) d_D_addReplacing_10 rfl ?_
  refine g_istore (pc := 11) [(5, _), (4, _), (0, _), (1, _), (2, _), (3, _)] d_D_addReplacing_11 (by decide) rfl ?_
  refine g_pick [0, 1, 2, 3, 4, 5] [(5, _), (4, _), (0, _), (1, _), (2, _), (3, _)] rfl ?_
  exact key row k d _ _ hs rfl hd DK.rf rfl (by omega)
set_option maxRecDepth 100000 in
set_option maxHeartbeats 4000000 in
theorem c_D_isAt {τ : Nat × Nat} {a : Nat → Nat} {i : Nat → Int32} {r : Nat → Nat → Int32} {L : Nat → Int64} {wr : pW} (d row : List Nat) (k : Nat) (hd : XD d i r) (h4 : ∀ x, x ∈ d → x < 4096) (hl : d.length ≤ 30) (he : row.length = d.length) (hs : Seg (r 2) k row) (hk : k + 30 ≤ 1800) : pC m_D_isAt τ [.ref (a 3), .int (nI k)] (wX a i r L ++ wr) ((fun rr w2 => rr = some (.int (bI (decide (d = row)))) ∧ w2 = wX a i r L ++ wr)) := by
  have hi := hd.1
  have key : ∀ m z : Nat, d.length - z = m → z ≤ d.length → (∀ y, y < z → d[y]? = row[y]?) → pG m_D_isAt τ (fun rr w2 => rr = some (.int (bI (decide (d = row)))) ∧ w2 = wX a i r L ++ wr) 0 0 2 [(2, .int (nI z)), (0, .ref (a 3)), (1, .int (nI k))] [] (wX a i r L ++ wr) := by
    intro m
    induction m with
    | zero =>
      intro z hm hz ag
      refine g_iload_n (pc := 2) d_D_isAt_2 rfl ?_
      refine g_aload_n (pc := 3) d_D_isAt_3 rfl ?_
      refine gx_D_length (pc := 4) d_D_isAt_4 lf_D_22 ?_
      rw [hi]
      refine g_nicmp_ge (pc := 7) (tgt := 37) d_D_isAt_7 (by decide) (by omega) (by omega) (fun h7 => ?_) (fun h => absurd h (by omega))
      refine g_iconst (pc := 37) (v := nI 1) d_D_isAt_37 (by decide) ?_
      refine g_zret (pc := 38) d_D_isAt_38 rfl (by decide) (Nat.le_refl _) (Nat.le_refl _) ?_
      refine ⟨congrArg (fun v => some (Value.int v)) (bI_1 ?_), rfl⟩
      rw [decide_eq_true_eq]
      apply List.ext_getElem?
      intro y
      by_cases hy : y < z
      · exact ag y hy
      · rw [List.getElem?_eq_none (by omega), List.getElem?_eq_none (by omega)]
    | succ m ih =>
      intro z hm hz ag
      have hz1 : z < d.length := by omega
      have hz2 : z < row.length := by omega
      have hx := hd.2 hl z d[z] (List.getElem?_eq_getElem hz1)
      have hy := hs z row[z] (List.getElem?_eq_getElem hz2)
      have hx4 := h4 d[z] (List.getElem_mem hz1)
      generalize hX : d[z] = X at hx hx4
      generalize hY : row[z] = Y at hy
      obtain ⟨hy1, hy2⟩ := hy
      refine g_iload_n (pc := 2) d_D_isAt_2 rfl ?_
      refine g_aload_n (pc := 3) d_D_isAt_3 rfl ?_
      refine gx_D_length (pc := 4) d_D_isAt_4 lf_D_22 ?_
      rw [hi]
      refine g_nicmp_ge (pc := 7) (tgt := 37) d_D_isAt_7 (by decide) (by omega) (by omega) (fun h => absurd h (by omega)) (fun h7 => ?_)
      refine g_aload_n (pc := 10) d_D_isAt_10 rfl ?_
      refine gx_D_row (pc := 11) d_D_isAt_11 lf_D_9 ?_
      refine g_iload_n (pc := 14) d_D_isAt_14 rfl ?_
      refine glx_D_row (pc := 15) (v := nI X) d_D_isAt_15 (vp_in_nI (by omega) (by decide)) (by rw [nI_clamp (by omega)]; exact hx) ?_
      refine g_aload_n (pc := 16) d_D_isAt_16 rfl ?_
      refine gx_D_shelf (pc := 17) d_D_isAt_17 lf_D_18 ?_
      refine g_iload_n (pc := 20) d_D_isAt_20 rfl ?_
      refine g_iload_n (pc := 21) d_D_isAt_21 rfl ?_
      refine g_nadd (pc := 22) d_D_isAt_22 ?_
      refine g_callV (M' := m_S_token) (pc := 23) (q := 2) d_D_isAt_23 lm_D_32 (c_S_token (k + z) Y (by omega) hy1) v_S_token rfl rfl rfl (by decide) rfl (Nat.le_of_ble_eq_true rfl) ?_
      rintro _ _ ⟨rfl, rfl⟩
      show pG m_D_isAt τ _ 0 0 26 _ (.int _ :: _) _
      refine g_nicmp_eq (pc := 26) (tgt := 31) d_D_isAt_26 (by decide) (by omega) (by omega) (fun h26 => ?_) (fun h26 => ?_)
      · refine g_niinc (pc := 31) [(2, _), (0, _), (1, _)] d_D_isAt_31 rfl (by decide) rfl ?_
        refine g_goto (pc := 34) (tgt := 2) d_D_isAt_34 (by decide) ?_
        exact ih (z + 1) (by omega) (by omega) (lt_s ag (by rw [List.getElem?_eq_getElem hz1, List.getElem?_eq_getElem hz2, hX, hY, h26]))
      · refine g_iconst (pc := 29) (v := nI 0) d_D_isAt_29 (by decide) ?_
        refine g_zret (pc := 30) d_D_isAt_30 rfl (by decide) (Nat.le_refl _) (Nat.le_refl _) ?_
        exact ⟨congrArg (fun v => some (Value.int v)) (bI_0 (by
          rw [decide_eq_false_iff_not]
          intro e
          subst e
          exact h26 (hX.symm.trans hY))), rfl⟩
  refine pC.of rfl (Nat.le_of_ble_eq_true rfl) ?_
  show pG m_D_isAt τ _ 0 0 0 [(0, _), (1, _)] [] _
  refine g_iconst (pc := 0) (v := nI 0) d_D_isAt_0 (by decide) ?_
  refine g_istore_n (pc := 1) [(2, _), (0, _), (1, _)] d_D_isAt_1 (by decide) rfl ?_
  exact key _ 0 rfl (Nat.zero_le _) lt_0
set_option maxRecDepth 100000 in
set_option maxHeartbeats 4000000 in
theorem c_D_copyTo {τ : Nat × Nat} {a : Nat → Nat} {i : Nat → Int32} {r : Nat → Nat → Int32} {L : Nat → Int64} {wr : pW} (k c : Nat) (hi : i 2 = nI c) (hc : c ≤ 30) (hk : k + c ≤ 1800) : pC m_D_copyTo τ [.ref (a 3), .ref (a 7), .int (nI k)] (wX a i r L ++ wr) (fun rr w2 => rr = none ∧ w2 = wX a i (va_up r 2 (va_cpy (r 4) (r 2) 0 k c)) L ++ wr) := by
  refine pC.of rfl (Nat.le_of_ble_eq_true rfl) ?_
  show pG m_D_copyTo τ _ 0 0 0 [(0, _), (1, _), (2, _)] [] _
  refine g_aload_n (pc := 0) d_D_copyTo_0 rfl ?_
  refine gx_D_row (pc := 1) d_D_copyTo_1 lf_D_9 ?_
  refine g_iconst (pc := 4) (v := nI 0) d_D_copyTo_4 (by decide) ?_
  refine g_aload_n (pc := 5) d_D_copyTo_5 rfl ?_
  refine g_iload_n (pc := 6) d_D_copyTo_6 rfl ?_
  refine g_aload_n (pc := 7) d_D_copyTo_7 rfl ?_
  refine gx_D_length (pc := 8) d_D_copyTo_8 lf_D_22 ?_
  rw [hi]
  refine g_copyi (pc := 11) (q0 := 9) (q1 := 7) (wX a i (va_up r 2 (va_cpy (r 4) (r 2) (nI 0).toNatClampNeg (nI k).toNatClampNeg (nI c).toNatClampNeg)) L ++ wr) d_D_copyTo_11 lm_D_63 (by decide) (Nat.le_of_ble_eq_true rfl) rfl rfl (nI_pos (by decide)) (nI_pos (by omega)) (nI_pos (by omega)) (by rw [nI_clamp (by decide), nI_clamp (by omega)]; omega) (by rw [nI_clamp (by omega), nI_clamp (by omega)]; omega) rfl ?_
  refine g_vret (pc := 14) d_D_copyTo_14 rfl (Nat.le_refl _) (Nat.le_refl _) ?_
  exact ⟨rfl, by rw [nI_clamp (by decide), nI_clamp (by omega), nI_clamp (by omega)]⟩
end
section
/-! Shelf.keep. By wip/whole/m_keep.py -/
def sKeep (Tm : List (List Nat)) (d : List Nat) : Int32 × List (List Nat) := if 30 < d.length then (-4, Tm) else match fnd Tm d with
  | some t => (nI t, Tm)
  | none => if Tm.length = 60 then (-4, Tm) else (nI Tm.length, Tm ++ [d])
theorem sKeep_big {Tm : List (List Nat)} {d : List Nat} (h : 30 < d.length) : sKeep Tm d = (-4, Tm) := by simp [sKeep, h]
theorem sKeep_at {Tm : List (List Nat)} {d : List Nat} {t : Nat} (h : ¬ 30 < d.length) (e : fnd Tm d = some t) : sKeep Tm d = (nI t, Tm) := by simp [sKeep, h, e]
theorem sKeep_full {Tm : List (List Nat)} {d : List Nat} (h : ¬ 30 < d.length) (e : fnd Tm d = none) (f : Tm.length = 60) : sKeep Tm d = (-4, Tm) := by simp [sKeep, h, e, f]
theorem sKeep_new {Tm : List (List Nat)} {d : List Nat} (h : ¬ 30 < d.length) (e : fnd Tm d = none) (f : Tm.length ≠ 60) : sKeep Tm d = (nI Tm.length, Tm ++ [d]) := by simp [sKeep, h, e, f]
theorem XS_add {Tm : List (List Nat)} {d : List Nat} {i i2 : Nat → Int32} {r r2 : Nat → Nat → Int32} (h : XS Tm i r) (hd : XD d i r) (h4 : ∀ x, x ∈ d → x < 4096) (hl : d.length ≤ 30) (hf : Tm.length ≠ 60) (hi : i2 1 = nI (Tm.length + 1)) (h3 : r2 3 = upd (r 3) Tm.length (nI d.length)) (h2 : r2 2 = va_cpy (r 4) (r 2) 0 (30 * Tm.length) d.length) : XS (Tm ++ [d]) i2 r2 := by
  obtain ⟨e1, e2, e3⟩ := h
  refine ⟨by rw [hi]; simp, by simp; omega, fun t row ht => ?_⟩
  by_cases c : t < Tm.length
  · rw [List.getElem?_append_left c] at ht
    obtain ⟨f1, f2, f3⟩ := e3 t row ht
    refine ⟨f1, by rw [h3, pk_un (by omega)]; exact f2, fun j x hj => ?_⟩
    have hj1 := (List.getElem?_eq_some_iff.mp hj).1
    rw [h2, pk_cpy_out (by omega)]
    exact f3 j x hj
  · rw [List.getElem?_append_right (by omega)] at ht
    have hz : t - Tm.length < 1 := (List.getElem?_eq_some_iff.mp ht).1
    have ht2 : t = Tm.length := by omega
    subst ht2
    simp at ht
    subst ht
    refine ⟨hl, by rw [h3, pk_us], fun j x hj => ?_⟩
    have hj1 := (List.getElem?_eq_some_iff.mp hj).1
    rw [h2, pk_cpy_in (by omega) (by omega), show 0 + (30 * Tm.length + j - 30 * Tm.length) = j by omega]
    exact ⟨hd.2 hl j x hj, h4 x (List.mem_of_getElem? hj)⟩
/-- only the kept terms have changed -/
def SKp (i : Nat → Int32) (r : Nat → Nat → Int32) (i2 : Nat → Int32) (r2 : Nat → Nat → Int32) : Prop := (∀ j, j ≠ 1 → i2 j = i j) ∧ ∀ j, j ≠ 2 → j ≠ 3 → r2 j = r j
set_option maxRecDepth 100000 in
set_option maxHeartbeats 4000000 in
theorem c_S_keep {τ : Nat × Nat} {a : Nat → Nat} {i : Nat → Int32} {r : Nat → Nat → Int32} {L : Nat → Int64} {wr : pW} (Tm : List (List Nat)) (d : List Nat) (h : XS Tm i r) (hd : XD d i r) (h4 : ∀ x, x ∈ d → x < 4096) (hb : d.length < 100000) : pC m_S_keep τ [.ref (a 2), .ref (a 3)] (wX a i r L ++ wr) ((fun rr w2 => ∃ i2 r2, rr = some (.int (sKeep Tm d).1) ∧ w2 = wX a i2 r2 L ++ wr ∧ XS (sKeep Tm d).2 i2 r2 ∧ SKp i r i2 r2)) := by
  have hc := h.1
  have h60 := h.2.1
  have hlen := hd.1
  have key : ∀ m z : Nat, ¬ 30 < d.length → Tm.length - z = m → z ≤ Tm.length → (∀ y, y < z → Tm[y]? ≠ some d) → pG m_S_keep τ (fun rr w2 => ∃ i2 r2, rr = some (.int (sKeep Tm d).1) ∧ w2 = wX a i2 r2 L ++ wr ∧ XS (sKeep Tm d).2 i2 r2 ∧ SKp i r i2 r2) 0 0 12 [(2, .int (nI z)), (0, .ref (a 2)), (1, .ref (a 3))] [] (wX a i r L ++ wr) := by
    intro m
    induction m with
    | zero =>
      intro z h30 hm hz hn
      have hf : fnd Tm d = none := fnd_none (fun y hy => hn y (by omega))
      refine g_iload_n (pc := 12) d_S_keep_12 rfl ?_
      refine g_aload_n (pc := 13) d_S_keep_13 rfl ?_
      refine gx_S_count (pc := 14) d_S_keep_14 lf_S_18 ?_
      rw [hc]
      refine g_nicmp_ge (pc := 17) (tgt := 53) d_S_keep_17 (by decide) (by omega) (by omega) (fun h17 => ?_) (fun h => absurd h (by omega))
      refine g_aload_n (pc := 53) d_S_keep_53 rfl ?_
      refine gx_S_count (pc := 54) d_S_keep_54 lf_S_18 ?_
      rw [hc]
      refine g_bipush (pc := 57) (v := nI 60) d_S_keep_57 (by decide) ?_
      refine g_nicmp_ne (pc := 59) (tgt := 65) d_S_keep_59 (by decide) (by omega) (by omega) (fun h59 => ?_) (fun h59 => ?_)
      · refine g_aload_n (pc := 65) d_S_keep_65 rfl ?_
        refine g_aload_n (pc := 66) d_S_keep_66 rfl ?_
        refine gx_S_tokens (pc := 67) d_S_keep_67 lf_S_9 ?_
        refine g_aload_n (pc := 70) d_S_keep_70 rfl ?_
        refine g_aload_n (pc := 71) d_S_keep_71 rfl ?_
        refine gx_S_count (pc := 72) d_S_keep_72 lf_S_18 ?_
        rw [hc]
        refine g_callV (M' := m_S_start) (pc := 75) (q := 2) d_S_keep_75 lm_S_34 (c_S_start _) v_S_start rfl rfl rfl (by decide) rfl (Nat.le_of_ble_eq_true rfl) ?_
        rintro _ _ ⟨rfl, rfl⟩
        show pG m_S_keep τ _ 0 0 78 _ (.int _ :: _) _
        refine g_callV (M' := m_D_copyTo) (pc := 78) (q := 3) d_S_keep_78 lm_S_51 (c_D_copyTo (30 * Tm.length) d.length hlen (by omega) (by omega)) v_D_copyTo rfl rfl rfl (by decide) rfl (Nat.le_of_ble_eq_true rfl) ?_
        rintro _ _ ⟨rfl, rfl⟩
        show pG m_S_keep τ _ 0 0 81 _ _ _
        refine g_aload_n (pc := 81) d_S_keep_81 rfl ?_
        refine gx_S_lengths (pc := 82) d_S_keep_82 lf_S_15 ?_
        refine g_aload_n (pc := 85) d_S_keep_85 rfl ?_
        refine gx_S_count (pc := 86) d_S_keep_86 lf_S_18 ?_
        rw [hc]
        refine g_aload_n (pc := 89) d_S_keep_89 rfl ?_
        refine g_callV (M' := m_D_length) (pc := 90) (q := 3) d_S_keep_90 lm_S_43 (c_D_length) v_D_length rfl rfl rfl (by decide) rfl (Nat.le_of_ble_eq_true rfl) ?_
        rintro _ _ ⟨rfl, rfl⟩
        show pG m_S_keep τ _ 0 0 93 _ (.int _ :: _) _
        rw [hlen]
        refine gsx_S_lengths (pc := 93) d_S_keep_93 (vp_in_nI (by omega) (by decide)) ?_
        refine g_aload_n (pc := 94) d_S_keep_94 rfl ?_
        refine g_dup (pc := 95) d_S_keep_95 rfl ?_
        refine gx_S_count (pc := 96) d_S_keep_96 lf_S_18 ?_
        rw [hc]
        refine g_iconst (pc := 99) (v := nI 1) d_S_keep_99 (by decide) ?_
        refine g_nadd (pc := 100) d_S_keep_100 ?_
        refine gx_S_count_p (pc := 101) d_S_keep_101 lf_S_18 ?_
        refine g_aload_n (pc := 104) d_S_keep_104 rfl ?_
        refine gx_S_count (pc := 105) d_S_keep_105 lf_S_18 ?_
        rw [pk_us]
        refine g_iconst (pc := 108) (v := nI 1) d_S_keep_108 (by decide) ?_
        refine g_nsub (pc := 109) d_S_keep_109 (by omega) ?_
        refine g_iret (pc := 110) d_S_keep_110 rfl (Nat.le_refl _) (Nat.le_refl _) ?_
        refine ⟨_, _, by rw [sKeep_new h30 hf (by omega)]; rfl, rfl, ?_, fun j hj => pk_un hj, fun j h2 h3 => by rw [up_n h3, up_n h2]⟩
        rw [sKeep_new h30 hf (by omega)]
        exact XS_add h hd h4 (by omega) (by omega) (by rw [pk_us]) (by rw [up_s, up_n (by decide), nI_clamp (by omega)]) (by rw [up_n (by decide), up_s])
      · refine g_bipush (pc := 62) (v := -4) d_S_keep_62 (by decide) ?_
        refine g_iret (pc := 64) d_S_keep_64 rfl (Nat.le_refl _) (Nat.le_refl _) ?_
        refine ⟨i, r, by rw [sKeep_full h30 hf (by omega)], rfl, by rw [sKeep_full h30 hf (by omega)]; exact h, fun _ _ => rfl, fun _ _ _ => rfl⟩
    | succ m ih =>
      intro z h30 hm hz hn
      have hz1 : z < Tm.length := by omega
      obtain ⟨row, hrow⟩ : ∃ row, Tm[z]? = some row := ⟨_, List.getElem?_eq_getElem hz1⟩
      obtain ⟨g1, g2, g3⟩ := h.2.2 z row hrow
      refine g_iload_n (pc := 12) d_S_keep_12 rfl ?_
      refine g_aload_n (pc := 13) d_S_keep_13 rfl ?_
      refine gx_S_count (pc := 14) d_S_keep_14 lf_S_18 ?_
      rw [hc]
      refine g_nicmp_ge (pc := 17) (tgt := 53) d_S_keep_17 (by decide) (by omega) (by omega) (fun h => absurd h (by omega)) (fun h17 => ?_)
      refine g_aload_n (pc := 20) d_S_keep_20 rfl ?_
      refine gx_S_lengths (pc := 21) d_S_keep_21 lf_S_15 ?_
      refine g_iload_n (pc := 24) d_S_keep_24 rfl ?_
      refine glx_S_lengths (pc := 25) (v := nI row.length) d_S_keep_25 (vp_in_nI (by omega) (by decide)) (by rw [nI_clamp (by omega)]; exact g2) ?_
      refine g_aload_n (pc := 26) d_S_keep_26 rfl ?_
      refine g_callV (M' := m_D_length) (pc := 27) (q := 3) d_S_keep_27 lm_S_43 (c_D_length) v_D_length rfl rfl rfl (by decide) rfl (Nat.le_of_ble_eq_true rfl) ?_
      rintro _ _ ⟨rfl, rfl⟩
      show pG m_S_keep τ _ 0 0 30 _ (.int _ :: _) _
      rw [hlen]
      refine g_nicmp_ne (pc := 30) (tgt := 47) d_S_keep_30 (by decide) (by omega) (by omega) (fun h30_ => ?_) (fun h30_ => ?_)
      · refine g_niinc (pc := 47) [(2, _), (0, _), (1, _)] d_S_keep_47 rfl (by decide) rfl ?_
        refine g_goto (pc := 50) (tgt := 12) d_S_keep_50 (by decide) ?_
        have hne : Tm[z]? ≠ some d := by
          rw [hrow]
          intro e
          have e := Option.some.inj e
          subst e
          first | exact absurd rfl h30_ | simp at h42
        exact ih (z + 1) h30 (by omega) (by omega) (lt_s hn hne)
      · refine g_aload_n (pc := 33) d_S_keep_33 rfl ?_
        refine g_aload_n (pc := 34) d_S_keep_34 rfl ?_
        refine g_iload_n (pc := 35) d_S_keep_35 rfl ?_
        refine g_callV (M' := m_S_start) (pc := 36) (q := 2) d_S_keep_36 lm_S_34 (c_S_start _) v_S_start rfl rfl rfl (by decide) rfl (Nat.le_of_ble_eq_true rfl) ?_
        rintro _ _ ⟨rfl, rfl⟩
        show pG m_S_keep τ _ 0 0 39 _ (.int _ :: _) _
        refine g_callV (M' := m_D_isAt) (pc := 39) (q := 3) d_S_keep_39 lm_S_47 (c_D_isAt d row (30 * z) hd h4 (by omega) (by omega) g3 (by omega)) v_D_isAt rfl rfl rfl (by decide) rfl (Nat.le_of_ble_eq_true rfl) ?_
        rintro _ _ ⟨rfl, rfl⟩
        show pG m_S_keep τ _ 0 0 42 _ (.int _ :: _) _
        refine g_ifb_eq (pc := 42) (tgt := 47) d_S_keep_42 (by decide) (fun h42 => ?_) (fun h42 => ?_)
        · refine g_niinc (pc := 47) [(2, _), (0, _), (1, _)] d_S_keep_47 rfl (by decide) rfl ?_
          refine g_goto (pc := 50) (tgt := 12) d_S_keep_50 (by decide) ?_
          have hne : Tm[z]? ≠ some d := by
            rw [hrow]
            intro e
            have e := Option.some.inj e
            subst e
            first | exact absurd rfl h30_ | simp at h42
          exact ih (z + 1) h30 (by omega) (by omega) (lt_s hn hne)
        · refine g_iload_n (pc := 45) d_S_keep_45 rfl ?_
          refine g_iret (pc := 46) d_S_keep_46 rfl (Nat.le_refl _) (Nat.le_refl _) ?_
          have e : d = row := by simpa using h42
          subst e
          refine ⟨i, r, by rw [sKeep_at h30 (fnd_some hrow hn)], rfl, by rw [sKeep_at h30 (fnd_some hrow hn)]; exact h, fun _ _ => rfl, fun _ _ _ => rfl⟩
  refine pC.of rfl (Nat.le_of_ble_eq_true rfl) ?_
  show pG m_S_keep τ _ 0 0 0 [(0, _), (1, _)] [] _
  refine g_aload_n (pc := 0) d_S_keep_0 rfl ?_
  refine g_callV (M' := m_D_isTooLarge) (pc := 1) (q := 3) d_S_keep_1 lm_S_37 (c_D_isTooLarge d.length hlen (by omega)) v_D_isTooLarge rfl rfl rfl (by decide) rfl (Nat.le_of_ble_eq_true rfl) ?_
  rintro _ _ ⟨rfl, rfl⟩
  show pG m_S_keep τ _ 0 0 4 _ (.int _ :: _) _
  refine g_ifb_eq (pc := 4) (tgt := 10) d_S_keep_4 (by decide) (fun h4_ => ?_) (fun h4_ => ?_)
  · refine g_iconst (pc := 10) (v := nI 0) d_S_keep_10 (by decide) ?_
    refine g_istore_n (pc := 11) [(2, _), (0, _), (1, _)] d_S_keep_11 (by decide) rfl ?_
    exact key _ 0 (by simpa using h4_) rfl (Nat.zero_le _) lt_0
  · refine g_bipush (pc := 7) (v := -4) d_S_keep_7 (by decide) ?_
    refine g_iret (pc := 9) d_S_keep_9 rfl (Nat.le_refl _) (Nat.le_refl _) ?_
    have e : 30 < d.length := by simpa using h4_
    refine ⟨i, r, by rw [sKeep_big e], rfl, by rw [sKeep_big e]; exact h, fun _ _ => rfl, fun _ _ _ => rfl⟩
end
section
/-! Bits of longs: two families of kit/laws/BITS.to-paste (lN to 2^64; lN to 2^62), then our own. -/
theorem wb_tb (n : Nat) : (lN n).toBitVec = BitVec.ofNat 64 n := rfl
theorem wb_inj {a b : Int64} (h : a.toBitVec = b.toBitVec) : a = b := Int64.toBitVec_inj.mp h
theorem wb_tn {n : Nat} (h : n < 2 ^ 64) : (lN n).toBitVec.toNat = n := by rw [wb_tb, BitVec.toNat_ofNat, Nat.mod_eq_of_lt h]
theorem wb_of (x : Int64) : ∃ n, n < 2 ^ 64 ∧ x = lN n := ⟨x.toBitVec.toNat, x.toBitVec.isLt, wb_inj (by rw [wb_tb]; simp)⟩
theorem wb_of32 (x : Int32) : ∃ n, n < 2 ^ 32 ∧ x = nI n := ⟨x.toBitVec.toNat, x.toBitVec.isLt, Int32.toBitVec_inj.mp (by show _ = BitVec.ofNat 32 _; simp)⟩
theorem wb_c : ∀ k, k < 64 → ((nI k).toInt64 &&& 63) = lN k := by decide +kernel
theorem wb_cu : ∀ k, k < 64 → ((nI k).toInt64.toUInt64 &&& Int64.toUInt64 63) = UInt64.ofNat k := by decide +kernel
theorem wb_sm : ∀ k, k < 64 → (BitVec.ofNat 64 k).smod 64 = BitVec.ofNat 64 k := by decide +kernel
theorem wb_pw {a b : Nat} (h : a ≤ b) : 2 ^ b = 2 ^ a * 2 ^ (b - a) := by rw [← Nat.pow_add]; congr 1; omega
theorem wb_lt2 {a b : Nat} (h : a < b) : 2 ^ a < 2 ^ b := Nat.pow_lt_pow_right (by decide) h
theorem wb_mod (n : Nat) : lN n = lN (n % 2 ^ 64) := wb_inj (by rw [wb_tb, wb_tb]; apply BitVec.eq_of_toNat_eq; rw [BitVec.toNat_ofNat, BitVec.toNat_ofNat, Nat.mod_mod])
theorem wb_shr {n k : Nat} (hn : n < 2 ^ 64) (hk : k < 64) : ((lN n).toUInt64 >>> ((nI k).toInt64.toUInt64 &&& Int64.toUInt64 63)).toInt64 = lN (n / 2 ^ k) := by
  rw [wb_cu k hk]
  apply wb_inj
  apply BitVec.eq_of_toNat_eq
  show ((lN n).toUInt64 >>> UInt64.ofNat k).toNat = (BitVec.ofNat 64 _).toNat
  have h1 : (UInt64.ofNat k).toNat = k := by
    show (BitVec.ofNat 64 k).toNat = k
    rw [BitVec.toNat_ofNat, Nat.mod_eq_of_lt (by omega)]
  have h2 : (lN n).toUInt64.toNat = n := wb_tn hn
  rw [UInt64.toNat_shiftRight, h1, h2, Nat.mod_eq_of_lt hk, Nat.shiftRight_eq_div_pow, BitVec.toNat_ofNat, Nat.mod_eq_of_lt (Nat.lt_of_le_of_lt (Nat.div_le_self _ _) hn)]
theorem wb_shl (n : Nat) {k : Nat} (hk : k < 64) : lN n <<< ((nI k).toInt64 &&& 63) = lN (n * 2 ^ k) := by
  rw [wb_c k hk]
  apply wb_inj
  rw [Int64.toBitVec_shiftLeft, wb_tb, wb_tb, wb_tb, wb_sm k hk]
  apply BitVec.eq_of_toNat_eq
  rw [BitVec.shiftLeft_eq', BitVec.toNat_shiftLeft, BitVec.toNat_ofNat, BitVec.toNat_ofNat, BitVec.toNat_ofNat, Nat.mod_eq_of_lt (show k < 2 ^ 64 by omega), Nat.shiftLeft_eq, Nat.mul_mod, Nat.mod_mod, ← Nat.mul_mod]
theorem wb_and {a b : Nat} (ha : a < 2 ^ 64) (hb : b < 2 ^ 64) : lN a &&& lN b = lN (a &&& b) := by
  apply wb_inj
  rw [Int64.toBitVec_and, wb_tb, wb_tb, wb_tb]
  apply BitVec.eq_of_toNat_eq
  rw [BitVec.toNat_and, BitVec.toNat_ofNat, BitVec.toNat_ofNat, BitVec.toNat_ofNat, Nat.mod_eq_of_lt ha, Nat.mod_eq_of_lt hb, Nat.mod_eq_of_lt (Nat.and_lt_two_pow _ hb)]
theorem wb_or {a b : Nat} (ha : a < 2 ^ 64) (hb : b < 2 ^ 64) : lN a ||| lN b = lN (a ||| b) := by
  apply wb_inj
  rw [Int64.toBitVec_or, wb_tb, wb_tb, wb_tb]
  apply BitVec.eq_of_toNat_eq
  rw [BitVec.toNat_or, BitVec.toNat_ofNat, BitVec.toNat_ofNat, BitVec.toNat_ofNat, Nat.mod_eq_of_lt ha, Nat.mod_eq_of_lt hb, Nat.mod_eq_of_lt (Nat.or_lt_two_pow ha hb)]
theorem wb_mask {n k : Nat} (hn : n < 2 ^ 64) (hk : k < 64) : lN n &&& lN (2 ^ k - 1) = lN (n % 2 ^ k) := by
  rw [wb_and hn (by have := wb_lt2 hk; omega), Nat.and_two_pow_sub_one_eq_mod]
theorem wb_a1 {n : Nat} (hn : n < 2 ^ 64) : lN n &&& 1 = lN (n % 2) := wb_mask (k := 1) hn (by decide)
theorem wb_bit {n k : Nat} (hn : n < 2 ^ 64) (hk : k < 64) : ((lN n).toUInt64 >>> ((nI k).toInt64.toUInt64 &&& Int64.toUInt64 63)).toInt64 &&& 1 = lN (n / 2 ^ k % 2) := by
  rw [wb_shr hn hk, wb_a1 (Nat.lt_of_le_of_lt (Nat.div_le_self _ _) hn)]
theorem pf_lI {a : Nat} (h : a < 2 ^ 63) : (lN a).toInt = (a : Int) := lg_ofNat_toInt h
theorem pf_shr {a d : Nat} {D : Int64} (hD : (D.toBitVec.smod 64).toNat = d) (h : a < 2 ^ 62) : lN a >>> D = lN (a / 2 ^ d) := by
  have hd : a / 2 ^ d ≤ a := Nat.div_le_self _ _
  apply Int64.toInt_inj.mp
  have e : (lN a >>> D).toInt = (lN a).toInt >>> d := by
    rw [← hD]
    exact BitVec.toInt_sshiftRight ..
  rw [e, Int.shiftRight_eq_div_pow, pf_lI (by omega), pf_lI (by omega)]
  rfl
theorem lb_shr {h t : Nat} (hh : h < 2 ^ 62) (ht : t < 62) : lN h >>> ((nI t).toInt64 &&& 63) = lN (h / 2 ^ t) := by
  rw [wb_c t (by omega)]
  refine pf_shr ?_ hh
  rw [wb_tb, wb_sm t (by omega), BitVec.toNat_ofNat]
  exact Nat.mod_eq_of_lt (by omega)
theorem lb_bit {h t : Nat} (hh : h < 2 ^ 62) (ht : t < 62) : (lN h >>> ((nI t).toInt64 &&& 63)) &&& lN 1 = lN (h / 2 ^ t % 2) := by
  rw [lb_shr hh ht]
  have hlt : h / 2 ^ t < 2 ^ 64 := Nat.lt_of_le_of_lt (Nat.div_le_self _ _) (Nat.lt_trans hh (by decide))
  exact wb_a1 hlt
theorem lb_tb (h t : Nat) : h / 2 ^ t % 2 = if h.testBit t then 1 else 0 := by
  rw [Nat.testBit_eq_decide_div_mod_eq]
  have := Nat.mod_two_eq_zero_or_one (h / 2 ^ t)
  rcases this with e | e <;> simp [e]
theorem lb_1 (t : Nat) (ht : t < 64) : lN 1 <<< ((nI t).toInt64 &&& 63) = lN (2 ^ t) := by
  rw [wb_shl 1 ht, Nat.one_mul]
theorem lb_inj {a b : Nat} (ha : a < 2 ^ 64) (hb : b < 2 ^ 64) (h : lN a = lN b) : a = b := by
  have := congrArg (fun x => x.toBitVec.toNat) h
  simp only [wb_tn ha, wb_tn hb] at this
  exact this
theorem lb_cmp0 {a : Nat} (ha : a < 2 ^ 62) : lg_cmp (lN a) (lN 0) = 0 ↔ a = 0 := by
  unfold lg_cmp
  have h1 : ¬ (lN 0 < lN a) ↔ a = 0 := by
    rw [pk_lLT (by decide) (by omega)]
    omega
  have h2 : lN a = lN 0 ↔ a = 0 := pk_lEQ (by omega) (by decide)
  by_cases e : a = 0
  · subst e
    simp
  · have h3 : lN a > lN 0 := by
      rw [gt_iff_lt, pk_lLT (by decide) (by omega)]
      omega
    rw [if_pos h3]
    simp [e]
/-- h without its bit y -/
def clr (h y : Nat) : Nat := h &&& ((2 ^ 64 - 1) ^^^ 2 ^ y)
theorem lb_xor {a b : Nat} (ha : a < 2 ^ 64) (hb : b < 2 ^ 64) : lN a ^^^ lN b = lN (a ^^^ b) := by
  apply wb_inj
  rw [Int64.toBitVec_xor, wb_tb, wb_tb, wb_tb]
  apply BitVec.eq_of_toNat_eq
  rw [BitVec.toNat_xor, BitVec.toNat_ofNat, BitVec.toNat_ofNat, BitVec.toNat_ofNat, Nat.mod_eq_of_lt ha, Nat.mod_eq_of_lt hb, Nat.mod_eq_of_lt (Nat.xor_lt_two_pow ha hb)]
theorem lb_clr {h y : Nat} (hh : h < 2 ^ 64) (hy : y < 64) : lN h &&& ((lN 1 <<< ((nI y).toInt64 &&& 63)) ^^^ (-1)) = lN (clr h y) := by
  have hp : 2 ^ y < 2 ^ 64 := wb_lt2 hy
  rw [lb_1 y hy, show (-1 : Int64) = lN (2 ^ 64 - 1) from by decide +kernel, lb_xor hp (by decide), wb_and hh (Nat.xor_lt_two_pow hp (by decide)), clr, Nat.xor_comm]
theorem clr_bit {h y t : Nat} (ht : t < 64) : (clr h y).testBit t = (h.testBit t && !decide (t = y)) := by
  unfold clr
  rw [Nat.testBit_and, Nat.testBit_xor, Nat.testBit_two_pow_sub_one, Nat.testBit_two_pow]
  by_cases e : t = y
  · subst e; simp [ht]
  · have : ¬ y = t := fun q => e q.symm
    simp [ht, e, this]
theorem clr_le (h y : Nat) : clr h y ≤ h := Nat.and_le_left
end
section
/-! Book, and ProofKernel.isIn: contracts. By wip/whole/m_book.py -/
set_option maxRecDepth 100000 in
set_option maxHeartbeats 4000000 in
theorem c_K_isIn {τ : Nat × Nat} {w : pW} (h t : Nat) (hh : h < 2 ^ 62) (ht : t < 62) : pC m_K_isIn τ [.long (lN h), .int (nI t)] w (fun r w2 => r = some (.int (bI (h.testBit t))) ∧ w2 = w) := by
  refine pC.of rfl (Nat.le_of_ble_eq_true rfl) ?_
  show pG m_K_isIn τ _ 0 0 0 [(0, _), (2, _)] [] _
  refine g_lload_n (pc := 0) d_K_isIn_0 rfl ?_
  refine g_iload_n (pc := 1) d_K_isIn_1 rfl ?_
  refine g_lshr (pc := 2) d_K_isIn_2 ?_
  refine g_lconst (pc := 3) (v := lN 1) d_K_isIn_3 (by decide) ?_
  refine g_land (pc := 4) d_K_isIn_4 ?_
  refine g_topl (lN (h / 2 ^ t % 2)) (lb_bit hh ht) ?_
  refine g_lconst (pc := 5) (v := lN 0) d_K_isIn_5 (by decide) ?_
  refine g_lcmp (pc := 6) d_K_isIn_6 ?_
  refine g_if_eq (pc := 7) (tgt := 14) d_K_isIn_7 (by decide) (fun h7 => ?_) (fun h7 => ?_)
  · refine g_iconst (pc := 14) (v := nI 0) d_K_isIn_14 (by decide) ?_
    refine g_zret (pc := 15) d_K_isIn_15 rfl (by decide) (Nat.le_refl _) (Nat.le_refl _) ?_
    refine ⟨congrArg (fun v => some (Value.int v)) ?_, rfl⟩
    rw [lb_cmp0 (by omega), lb_tb] at h7
    first | exact bI_1 (by cases e : h.testBit t <;> simp_all) | exact bI_0 (by cases e : h.testBit t <;> simp_all)
  · refine g_iconst (pc := 10) (v := nI 1) d_K_isIn_10 (by decide) ?_
    refine g_goto (pc := 11) (tgt := 15) d_K_isIn_11 (by decide) ?_
    refine g_zret (pc := 15) d_K_isIn_15 rfl (by decide) (Nat.le_refl _) (Nat.le_refl _) ?_
    refine ⟨congrArg (fun v => some (Value.int v)) ?_, rfl⟩
    rw [lb_cmp0 (by omega), lb_tb] at h7
    first | exact bI_1 (by cases e : h.testBit t <;> simp_all) | exact bI_0 (by cases e : h.testBit t <;> simp_all)
set_option maxRecDepth 100000 in
set_option maxHeartbeats 4000000 in
theorem c_B_count {τ : Nat × Nat} {a : Nat → Nat} {i : Nat → Int32} {r : Nat → Nat → Int32} {L : Nat → Int64} {wr : pW}  : pC m_B_count τ [.ref (a 4)] (wX a i r L ++ wr) (fun rr w2 => rr = some (.int (i 4)) ∧ w2 = wX a i r L ++ wr) := by
  refine pC.of rfl (Nat.le_of_ble_eq_true rfl) ?_
  show pG m_B_count τ _ 0 0 0 [(0, _)] [] _
  refine g_aload_n (pc := 0) d_B_count_0 rfl ?_
  refine gx_B_count (pc := 1) d_B_count_1 lf_B_31 ?_
  refine g_iret (pc := 4) d_B_count_4 rfl (Nat.le_refl _) (Nat.le_refl _) ?_
  exact ⟨rfl, rfl⟩
set_option maxRecDepth 100000 in
set_option maxHeartbeats 4000000 in
theorem c_B_has {τ : Nat × Nat} {a : Nat → Nat} {i : Nat → Int32} {r : Nat → Nat → Int32} {L : Nat → Int64} {wr : pW} (c : Nat) (hc : i 4 = nI c) (hb : c < 2 ^ 31) (x : Int32) : pC m_B_has τ [.ref (a 4), .int x] (wX a i r L ++ wr) (fun rr w2 => rr = some (.int (bI (ixB x c))) ∧ w2 = wX a i r L ++ wr) := by
  refine pC.of rfl (Nat.le_of_ble_eq_true rfl) ?_
  show pG m_B_has τ _ 0 0 0 [(0, _), (1, _)] [] _
  refine g_iload_n (pc := 0) d_B_has_0 rfl ?_
  refine g_if_lt (pc := 1) (tgt := 16) d_B_has_1 (by decide) (fun h1 => ?_) (fun h1 => ?_)
  · refine g_iconst (pc := 16) (v := nI 0) d_B_has_16 (by decide) ?_
    refine g_zret (pc := 17) d_B_has_17 rfl (by decide) (Nat.le_refl _) (Nat.le_refl _) ?_
    refine ⟨congrArg (fun v => some (Value.int v)) ?_, rfl⟩
    first | exact bI_0 (ixB_neg (by assumption)) | exact bI_0 (ixB_big hb (by assumption)) | exact bI_1 (ixB_in hb (by assumption) (by assumption))
  · refine g_iload_n (pc := 4) d_B_has_4 rfl ?_
    refine g_aload_n (pc := 5) d_B_has_5 rfl ?_
    refine gx_B_count (pc := 6) d_B_has_6 lf_B_31 ?_
    rw [hc]
    refine g_icmp_ge (pc := 9) (tgt := 16) d_B_has_9 (by decide) (fun h9 => ?_) (fun h9 => ?_)
    · refine g_iconst (pc := 16) (v := nI 0) d_B_has_16 (by decide) ?_
      refine g_zret (pc := 17) d_B_has_17 rfl (by decide) (Nat.le_refl _) (Nat.le_refl _) ?_
      refine ⟨congrArg (fun v => some (Value.int v)) ?_, rfl⟩
      first | exact bI_0 (ixB_neg (by assumption)) | exact bI_0 (ixB_big hb (by assumption)) | exact bI_1 (ixB_in hb (by assumption) (by assumption))
    · refine g_iconst (pc := 12) (v := nI 1) d_B_has_12 (by decide) ?_
      refine g_goto (pc := 13) (tgt := 17) d_B_has_13 (by decide) ?_
      refine g_zret (pc := 17) d_B_has_17 rfl (by decide) (Nat.le_refl _) (Nat.le_refl _) ?_
      refine ⟨congrArg (fun v => some (Value.int v)) ?_, rfl⟩
      first | exact bI_0 (ixB_neg (by assumption)) | exact bI_0 (ixB_big hb (by assumption)) | exact bI_1 (ixB_in hb (by assumption) (by assumption))
set_option maxRecDepth 100000 in
set_option maxHeartbeats 4000000 in
theorem c_B_isFull {τ : Nat × Nat} {a : Nat → Nat} {i : Nat → Int32} {r : Nat → Nat → Int32} {L : Nat → Int64} {wr : pW} (c : Nat) (hc : i 4 = nI c) (hb : c < 2 ^ 31) : pC m_B_isFull τ [.ref (a 4)] (wX a i r L ++ wr) (fun rr w2 => rr = some (.int (bI (decide (c = 40)))) ∧ w2 = wX a i r L ++ wr) := by
  refine pC.of rfl (Nat.le_of_ble_eq_true rfl) ?_
  show pG m_B_isFull τ _ 0 0 0 [(0, _)] [] _
  refine g_aload_n (pc := 0) d_B_isFull_0 rfl ?_
  refine gx_B_count (pc := 1) d_B_isFull_1 lf_B_31 ?_
  rw [hc]
  refine g_bipush (pc := 4) (v := nI 40) d_B_isFull_4 (by decide) ?_
  refine g_nicmp_ne (pc := 6) (tgt := 13) d_B_isFull_6 (by decide) (by omega) (by omega) (fun h6 => ?_) (fun h6 => ?_)
  · refine g_iconst (pc := 13) (v := nI 0) d_B_isFull_13 (by decide) ?_
    refine g_zret (pc := 14) d_B_isFull_14 rfl (by decide) (Nat.le_refl _) (Nat.le_refl _) ?_
    refine ⟨congrArg (fun v => some (Value.int v)) ?_, rfl⟩
    first | exact bI_1 (by rw [decide_eq_true_eq]; omega) | exact bI_0 (by rw [decide_eq_false_iff_not]; omega)
  · refine g_iconst (pc := 9) (v := nI 1) d_B_isFull_9 (by decide) ?_
    refine g_goto (pc := 10) (tgt := 14) d_B_isFull_10 (by decide) ?_
    refine g_zret (pc := 14) d_B_isFull_14 rfl (by decide) (Nat.le_refl _) (Nat.le_refl _) ?_
    refine ⟨congrArg (fun v => some (Value.int v)) ?_, rfl⟩
    first | exact bI_1 (by rw [decide_eq_true_eq]; omega) | exact bI_0 (by rw [decide_eq_false_iff_not]; omega)
set_option maxRecDepth 100000 in
set_option maxHeartbeats 4000000 in
theorem c_B_hypothesesOf {τ : Nat × Nat} {a : Nat → Nat} {i : Nat → Int32} {r : Nat → Nat → Int32} {L : Nat → Int64} {wr : pW} (k : Nat) (hk : k < 40) : pC m_B_hypothesesOf τ [.ref (a 4), .int (nI k)] (wX a i r L ++ wr) (fun rr w2 => rr = some (.long (L k)) ∧ w2 = wX a i r L ++ wr) := by
  refine pC.of rfl (Nat.le_of_ble_eq_true rfl) ?_
  show pG m_B_hypothesesOf τ _ 0 0 0 [(0, _), (1, _)] [] _
  refine g_aload_n (pc := 0) d_B_hypothesesOf_0 rfl ?_
  refine gx_B_assumed (pc := 1) d_B_hypothesesOf_1 lf_B_9 ?_
  refine g_iload_n (pc := 4) d_B_hypothesesOf_4 rfl ?_
  refine glx_B_assumed (pc := 5) d_B_hypothesesOf_5 (vp_in_nI hk (by decide)) rfl ?_
  refine g_lret (pc := 6) d_B_hypothesesOf_6 rfl (Nat.le_refl _) (Nat.le_refl _) ?_
  exact ⟨by rw [nI_clamp (by omega)], rfl⟩
set_option maxRecDepth 100000 in
set_option maxHeartbeats 4000000 in
theorem c_B_conclusionOf {τ : Nat × Nat} {a : Nat → Nat} {i : Nat → Int32} {r : Nat → Nat → Int32} {L : Nat → Int64} {wr : pW} (k : Nat) (hk : k < 40) : pC m_B_conclusionOf τ [.ref (a 4), .int (nI k)] (wX a i r L ++ wr) (fun rr w2 => rr = some (.int (r 6 k)) ∧ w2 = wX a i r L ++ wr) := by
  refine pC.of rfl (Nat.le_of_ble_eq_true rfl) ?_
  show pG m_B_conclusionOf τ _ 0 0 0 [(0, _), (1, _)] [] _
  refine g_aload_n (pc := 0) d_B_conclusionOf_0 rfl ?_
  refine gx_B_conclusions (pc := 1) d_B_conclusionOf_1 lf_B_15 ?_
  refine g_iload_n (pc := 4) d_B_conclusionOf_4 rfl ?_
  refine glx_B_conclusions (pc := 5) d_B_conclusionOf_5 (vp_in_nI hk (by decide)) rfl ?_
  refine g_iret (pc := 6) d_B_conclusionOf_6 rfl (Nat.le_refl _) (Nat.le_refl _) ?_
  exact ⟨by rw [nI_clamp (by omega)], rfl⟩
set_option maxRecDepth 100000 in
set_option maxHeartbeats 4000000 in
theorem c_B_firstPremise {τ : Nat × Nat} {a : Nat → Nat} {i : Nat → Int32} {r : Nat → Nat → Int32} {L : Nat → Int64} {wr : pW} (k rl x : Nat) (hk : k < 40) (h7 : r 7 k = nI rl) (hr : rl < 14) (hx : nbx rl = nI 2 → r 8 k = nI x) : pC m_B_firstPremise τ [.ref (a 4), .int (nI k)] (wX a i r L ++ wr) (fun rr w2 => rr = some (.int (if nbx rl = nI 2 then nI x else -1)) ∧ w2 = wX a i r L ++ wr) := by
  refine pC.of rfl (Nat.le_of_ble_eq_true rfl) ?_
  show pG m_B_firstPremise τ _ 0 0 0 [(0, _), (1, _)] [] _
  refine g_getsXN (pc := 0) d_B_firstPremise_0 rfl ?_
  refine g_aload_n (pc := 3) d_B_firstPremise_3 rfl ?_
  refine gx_B_rules (pc := 4) d_B_firstPremise_4 lf_B_19 ?_
  refine g_iload_n (pc := 7) d_B_firstPremise_7 rfl ?_
  refine glx_B_rules (pc := 8) (v := nI rl) d_B_firstPremise_8 (vp_in_nI (by omega) (by decide)) (by rw [nI_clamp (by omega)]; exact h7) ?_
  refine g_saldX (pc := 9) d_B_firstPremise_9 (vp_in_nI (by omega) (by decide)) rfl ?_
  refine g_iconst (pc := 10) (v := nI 2) d_B_firstPremise_10 (by decide) ?_
  refine g_icmp_ne (pc := 11) (tgt := 23) d_B_firstPremise_11 (by decide) (fun h11 => ?_) (fun h11 => ?_)
  · refine g_iconst (pc := 23) (v := -1) d_B_firstPremise_23 (by decide) ?_
    refine g_iret (pc := 24) d_B_firstPremise_24 rfl (Nat.le_refl _) (Nat.le_refl _) ?_
    refine ⟨congrArg (fun v => some (Value.int v)) ?_, rfl⟩
    rw [nI_clamp (by omega)] at h11
    first | rw [if_pos h11] | rw [if_neg h11]
  · refine g_aload_n (pc := 14) d_B_firstPremise_14 rfl ?_
    refine gx_B_namedByX (pc := 15) d_B_firstPremise_15 lf_B_22 ?_
    refine g_iload_n (pc := 18) d_B_firstPremise_18 rfl ?_
    refine glx_B_namedByX (pc := 19) (v := nI x) d_B_firstPremise_19 (vp_in_nI (by omega) (by decide)) (by rw [nI_clamp (by omega)]; exact hx (by rw [nI_clamp (by omega)] at h11; exact h11)) ?_
    refine g_goto (pc := 20) (tgt := 24) d_B_firstPremise_20 (by decide) ?_
    refine g_iret (pc := 24) d_B_firstPremise_24 rfl (Nat.le_refl _) (Nat.le_refl _) ?_
    refine ⟨congrArg (fun v => some (Value.int v)) ?_, rfl⟩
    rw [nI_clamp (by omega)] at h11
    first | rw [if_pos h11] | rw [if_neg h11]
set_option maxRecDepth 100000 in
set_option maxHeartbeats 4000000 in
theorem c_B_secondPremise {τ : Nat × Nat} {a : Nat → Nat} {i : Nat → Int32} {r : Nat → Nat → Int32} {L : Nat → Int64} {wr : pW} (k rl x : Nat) (hk : k < 40) (h7 : r 7 k = nI rl) (hr : rl < 14) (hx : nby rl = nI 2 → r 9 k = nI x) : pC m_B_secondPremise τ [.ref (a 4), .int (nI k)] (wX a i r L ++ wr) (fun rr w2 => rr = some (.int (if nby rl = nI 2 then nI x else -1)) ∧ w2 = wX a i r L ++ wr) := by
  refine pC.of rfl (Nat.le_of_ble_eq_true rfl) ?_
  show pG m_B_secondPremise τ _ 0 0 0 [(0, _), (1, _)] [] _
  refine g_getsYN (pc := 0) d_B_secondPremise_0 rfl ?_
  refine g_aload_n (pc := 3) d_B_secondPremise_3 rfl ?_
  refine gx_B_rules (pc := 4) d_B_secondPremise_4 lf_B_19 ?_
  refine g_iload_n (pc := 7) d_B_secondPremise_7 rfl ?_
  refine glx_B_rules (pc := 8) (v := nI rl) d_B_secondPremise_8 (vp_in_nI (by omega) (by decide)) (by rw [nI_clamp (by omega)]; exact h7) ?_
  refine g_saldY (pc := 9) d_B_secondPremise_9 (vp_in_nI (by omega) (by decide)) rfl ?_
  refine g_iconst (pc := 10) (v := nI 2) d_B_secondPremise_10 (by decide) ?_
  refine g_icmp_ne (pc := 11) (tgt := 23) d_B_secondPremise_11 (by decide) (fun h11 => ?_) (fun h11 => ?_)
  · refine g_iconst (pc := 23) (v := -1) d_B_secondPremise_23 (by decide) ?_
    refine g_iret (pc := 24) d_B_secondPremise_24 rfl (Nat.le_refl _) (Nat.le_refl _) ?_
    refine ⟨congrArg (fun v => some (Value.int v)) ?_, rfl⟩
    rw [nI_clamp (by omega)] at h11
    first | rw [if_pos h11] | rw [if_neg h11]
  · refine g_aload_n (pc := 14) d_B_secondPremise_14 rfl ?_
    refine gx_B_namedByY (pc := 15) d_B_secondPremise_15 lf_B_25 ?_
    refine g_iload_n (pc := 18) d_B_secondPremise_18 rfl ?_
    refine glx_B_namedByY (pc := 19) (v := nI x) d_B_secondPremise_19 (vp_in_nI (by omega) (by decide)) (by rw [nI_clamp (by omega)]; exact hx (by rw [nI_clamp (by omega)] at h11; exact h11)) ?_
    refine g_goto (pc := 20) (tgt := 24) d_B_secondPremise_20 (by decide) ?_
    refine g_iret (pc := 24) d_B_secondPremise_24 rfl (Nat.le_refl _) (Nat.le_refl _) ?_
    refine ⟨congrArg (fun v => some (Value.int v)) ?_, rfl⟩
    rw [nI_clamp (by omega)] at h11
    first | rw [if_pos h11] | rw [if_neg h11]
set_option maxRecDepth 100000 in
set_option maxHeartbeats 4000000 in
theorem c_B_stepsBefore_0 {τ : Nat × Nat} {a : Nat → Nat} {i : Nat → Int32} {r : Nat → Nat → Int32} {L : Nat → Int64} {wr : pW}  : pC m_B_stepsBefore τ [.ref (a 4), .int (-1)] (wX a i r L ++ wr) (fun rr w2 => rr = some (.int (nI 0)) ∧ w2 = wX a i r L ++ wr) := by
  refine pC.of rfl (Nat.le_of_ble_eq_true rfl) ?_
  show pG m_B_stepsBefore τ _ 0 0 0 [(0, _), (1, _)] [] _
  refine g_iload_n (pc := 0) d_B_stepsBefore_0 rfl ?_
  refine g_iconst (pc := 1) (v := -1) d_B_stepsBefore_1 (by decide) ?_
  refine g_icmp_ne (pc := 2) (tgt := 9) d_B_stepsBefore_2 (by decide) (fun h => absurd rfl h) (fun h2 => ?_)
  refine g_iconst (pc := 5) (v := nI 0) d_B_stepsBefore_5 (by decide) ?_
  refine g_goto (pc := 6) (tgt := 15) d_B_stepsBefore_6 (by decide) ?_
  refine g_iret (pc := 15) d_B_stepsBefore_15 rfl (Nat.le_refl _) (Nat.le_refl _) ?_
  exact ⟨rfl, rfl⟩
set_option maxRecDepth 100000 in
set_option maxHeartbeats 4000000 in
theorem c_B_stepsBefore_1 {τ : Nat × Nat} {a : Nat → Nat} {i : Nat → Int32} {r : Nat → Nat → Int32} {L : Nat → Int64} {wr : pW} (k : Nat) (hk : k < 40) : pC m_B_stepsBefore τ [.ref (a 4), .int (nI k)] (wX a i r L ++ wr) (fun rr w2 => rr = some (.int (r 10 k)) ∧ w2 = wX a i r L ++ wr) := by
  refine pC.of rfl (Nat.le_of_ble_eq_true rfl) ?_
  show pG m_B_stepsBefore τ _ 0 0 0 [(0, _), (1, _)] [] _
  refine g_iload_n (pc := 0) d_B_stepsBefore_0 rfl ?_
  refine g_iconst (pc := 1) (v := -1) d_B_stepsBefore_1 (by decide) ?_
  refine g_icmp_ne (pc := 2) (tgt := 9) d_B_stepsBefore_2 (by decide) (fun h2 => ?_) (fun h => absurd h (nI_m1 (by omega)))
  refine g_aload_n (pc := 9) d_B_stepsBefore_9 rfl ?_
  refine gx_B_stepsUpTo (pc := 10) d_B_stepsBefore_10 lf_B_28 ?_
  refine g_iload_n (pc := 13) d_B_stepsBefore_13 rfl ?_
  refine glx_B_stepsUpTo (pc := 14) d_B_stepsBefore_14 (vp_in_nI hk (by decide)) rfl ?_
  refine g_iret (pc := 15) d_B_stepsBefore_15 rfl (Nat.le_refl _) (Nat.le_refl _) ?_
  exact ⟨by rw [nI_clamp (by omega)], rfl⟩
set_option maxRecDepth 100000 in
set_option maxHeartbeats 4000000 in
theorem c_B_setOf_0 {τ : Nat × Nat} {w : pW}  : pC m_B_setOf τ [.int (-1)] w (fun rr w2 => rr = some (.long (lN 0)) ∧ w2 = w) := by
  refine pC.of rfl (Nat.le_of_ble_eq_true rfl) ?_
  show pG m_B_setOf τ _ 0 0 0 [(0, _)] [] _
  refine g_iload_n (pc := 0) d_B_setOf_0 rfl ?_
  refine g_iconst (pc := 1) (v := -1) d_B_setOf_1 (by decide) ?_
  refine g_icmp_ne (pc := 2) (tgt := 9) d_B_setOf_2 (by decide) (fun h => absurd rfl h) (fun h2 => ?_)
  refine g_lconst (pc := 5) (v := lN 0) d_B_setOf_5 (by decide) ?_
  refine g_goto (pc := 6) (tgt := 12) d_B_setOf_6 (by decide) ?_
  refine g_lret (pc := 12) d_B_setOf_12 rfl (Nat.le_refl _) (Nat.le_refl _) ?_
  exact ⟨rfl, rfl⟩
set_option maxRecDepth 100000 in
set_option maxHeartbeats 4000000 in
theorem c_B_setOf_1 {τ : Nat × Nat} {w : pW} (k : Nat) (hk : k < 40) : pC m_B_setOf τ [.int (nI k)] w (fun rr w2 => rr = some (.long (lN (2 ^ k))) ∧ w2 = w) := by
  refine pC.of rfl (Nat.le_of_ble_eq_true rfl) ?_
  show pG m_B_setOf τ _ 0 0 0 [(0, _)] [] _
  refine g_iload_n (pc := 0) d_B_setOf_0 rfl ?_
  refine g_iconst (pc := 1) (v := -1) d_B_setOf_1 (by decide) ?_
  refine g_icmp_ne (pc := 2) (tgt := 9) d_B_setOf_2 (by decide) (fun h2 => ?_) (fun h => absurd h (nI_m1 (by omega)))
  refine g_lconst (pc := 9) (v := lN 1) d_B_setOf_9 (by decide) ?_
  refine g_iload_n (pc := 10) d_B_setOf_10 rfl ?_
  refine g_lshl (pc := 11) d_B_setOf_11 ?_
  refine g_lret (pc := 12) d_B_setOf_12 rfl (Nat.le_refl _) (Nat.le_refl _) ?_
  exact ⟨by rw [lb_1 k (by omega)], rfl⟩
theorem XB_add {Th : List Thm} {i i2 : Nat → Int32} {r r2 : Nat → Nat → Int32} {L L2 : Nat → Int64} {rl x y h c : Nat} {X Y : Int32} (hb : XB Th i r L) (hf : Th.length ≠ 40) (hr : rl < 14) (hX : nbx rl = 2 → X = nI x ∧ x < Th.length) (hY : nby rl = 2 → Y = nI y ∧ y < Th.length) (e4 : i2 4 = nI (Th.length + 1)) (e6 : r2 6 = upd (r 6) Th.length (nI c)) (e7 : r2 7 = upd (r 7) Th.length (nI rl)) (e8 : r2 8 = upd (r 8) Th.length X) (e9 : r2 9 = upd (r 9) Th.length Y) (eL : L2 = vp_updL L Th.length (lN h)) : XB (Th ++ [(rl, x, y, h, c)]) i2 r2 L2 := by
  obtain ⟨b1, b2, b3⟩ := hb
  refine ⟨by rw [e4]; simp, by simp; omega, fun k rl' x' y' h' c' hk => ?_⟩
  by_cases q : k < Th.length
  · rw [List.getElem?_append_left q] at hk
    obtain ⟨d1, d2, d3, d4, d5⟩ := b3 k rl' x' y' h' c' hk
    rw [e6, e7, e8, e9, eL, pk_un (by omega), pk_un (by omega), pk_un (by omega), pk_un (by omega), pk_uLn (by omega)]
    exact ⟨d1, d2, d3, d4, d5⟩
  · rw [List.getElem?_append_right (by omega)] at hk
    have hz : k - Th.length < 1 := (List.getElem?_eq_some_iff.mp hk).1
    have hk2 : k = Th.length := by omega
    subst hk2
    simp at hk
    obtain ⟨rfl, rfl, rfl, rfl, rfl⟩ := hk
    rw [e6, e7, e8, e9, eL, pk_us, pk_us, pk_us, pk_us, pk_uLs]
    exact ⟨⟨rfl, hr⟩, hX, hY, rfl, rfl⟩
/-- only the theorems have changed -/
def BKp (i : Nat → Int32) (r : Nat → Nat → Int32) (i2 : Nat → Int32) (r2 : Nat → Nat → Int32) : Prop := (∀ j, j ≠ 4 → i2 j = i j) ∧ ∀ j, j < 6 → r2 j = r j
set_option maxRecDepth 100000 in
set_option maxHeartbeats 4000000 in
theorem c_B_add {τ : Nat × Nat} {a : Nat → Nat} {i : Nat → Int32} {r : Nat → Nat → Int32} {L : Nat → Int64} {wr : pW} (Th : List Thm) (rl x y h c : Nat) (X Y : Int32) (hb : XB Th i r L) (hf : Th.length ≠ 40) (hr : rl < 14) (hX : nbx rl = 2 → X = nI x ∧ x < Th.length) (hY : nby rl = 2 → Y = nI y ∧ y < Th.length) : pC m_B_add τ [.ref (a 4), .int (nI rl), .int X, .int Y, .long (lN h), .int (nI c)] (wX a i r L ++ wr) ((fun rr w2 => ∃ i2 r2 L2, rr = some (.int (nI Th.length)) ∧ w2 = wX a i2 r2 L2 ++ wr ∧ XB (Th ++ [(rl, x, y, h, c)]) i2 r2 L2 ∧ BKp i r i2 r2)) := by
  refine pC.of rfl (Nat.le_of_ble_eq_true rfl) ?_
  show pG m_B_add τ _ 0 0 0 [(0, _), (1, _), (2, _), (3, _), (4, _), (6, _)] [] _
  have hc := hb.1
  have h40 := hb.2.1
  refine g_aload_n (pc := 0) d_B_add_0 rfl ?_
  refine gx_B_assumed (pc := 1) d_B_add_1 lf_B_9 ?_
  refine g_aload_n (pc := 4) d_B_add_4 rfl ?_
  refine gx_B_count (pc := 5) d_B_add_5 lf_B_31 ?_
  rw [hc]
  refine g_lload (pc := 8) d_B_add_8 rfl ?_
  refine gsx_B_assumed (pc := 10) d_B_add_10 (vp_in_nI (by omega) (by decide)) ?_
  refine g_aload_n (pc := 11) d_B_add_11 rfl ?_
  refine gx_B_conclusions (pc := 12) d_B_add_12 lf_B_15 ?_
  refine g_aload_n (pc := 15) d_B_add_15 rfl ?_
  refine gx_B_count (pc := 16) d_B_add_16 lf_B_31 ?_
  rw [hc]
  refine g_iload (pc := 19) d_B_add_19 rfl ?_
  refine gsx_B_conclusions (pc := 21) d_B_add_21 (vp_in_nI (by omega) (by decide)) ?_
  refine g_aload_n (pc := 22) d_B_add_22 rfl ?_
  refine gx_B_rules (pc := 23) d_B_add_23 lf_B_19 ?_
  refine g_aload_n (pc := 26) d_B_add_26 rfl ?_
  refine gx_B_count (pc := 27) d_B_add_27 lf_B_31 ?_
  rw [hc]
  refine g_iload_n (pc := 30) d_B_add_30 rfl ?_
  refine gsx_B_rules (pc := 31) d_B_add_31 (vp_in_nI (by omega) (by decide)) ?_
  refine g_aload_n (pc := 32) d_B_add_32 rfl ?_
  refine gx_B_namedByX (pc := 33) d_B_add_33 lf_B_22 ?_
  refine g_aload_n (pc := 36) d_B_add_36 rfl ?_
  refine gx_B_count (pc := 37) d_B_add_37 lf_B_31 ?_
  rw [hc]
  refine g_iload_n (pc := 40) d_B_add_40 rfl ?_
  refine gsx_B_namedByX (pc := 41) d_B_add_41 (vp_in_nI (by omega) (by decide)) ?_
  refine g_aload_n (pc := 42) d_B_add_42 rfl ?_
  refine gx_B_namedByY (pc := 43) d_B_add_43 lf_B_25 ?_
  refine g_aload_n (pc := 46) d_B_add_46 rfl ?_
  refine gx_B_count (pc := 47) d_B_add_47 lf_B_31 ?_
  rw [hc]
  refine g_iload_n (pc := 50) d_B_add_50 rfl ?_
  refine gsx_B_namedByY (pc := 51) d_B_add_51 (vp_in_nI (by omega) (by decide)) ?_
  refine g_aload_n (pc := 52) d_B_add_52 rfl ?_
  refine g_dup (pc := 53) d_B_add_53 rfl ?_
  refine gx_B_count (pc := 54) d_B_add_54 lf_B_31 ?_
  rw [hc]
  refine g_iconst (pc := 57) (v := nI 1) d_B_add_57 (by decide) ?_
  refine g_nadd (pc := 58) d_B_add_58 ?_
  refine gx_B_count_p (pc := 59) d_B_add_59 lf_B_31 ?_
  refine g_aload_n (pc := 62) d_B_add_62 rfl ?_
  refine gx_B_count (pc := 63) d_B_add_63 lf_B_31 ?_
  rw [pk_us]
  refine g_iconst (pc := 66) (v := nI 1) d_B_add_66 (by decide) ?_
  refine g_nsub (pc := 67) d_B_add_67 (by omega) ?_
  refine g_iret (pc := 68) d_B_add_68 rfl (Nat.le_refl _) (Nat.le_refl _) ?_
  refine ⟨_, _, _, rfl, rfl, XB_add hb hf hr hX hY (by rw [pk_us]) ?_ ?_ ?_ ?_ ?_, fun j hj => pk_un hj, fun j hj => ?_⟩
  · rw [up_n (by decide), up_n (by decide), up_n (by decide), up_s, nI_clamp (by omega)]
  · rw [up_n (by decide), up_n (by decide), up_s, up_n (by decide), nI_clamp (by omega)]
  · rw [up_n (by decide), up_s, up_n (by decide), up_n (by decide), nI_clamp (by omega)]
  · rw [up_s, up_n (by decide), up_n (by decide), up_n (by decide), nI_clamp (by omega)]
  · rw [nI_clamp (by omega)]
  · rw [up_n (by omega), up_n (by omega), up_n (by omega), up_n (by omega)]
end
section
/-! Book: axiomsOf, stepsOf. By wip/whole/m_book.py -/
/-- a number for each theorem, out of those before it -/
def bld (F : List Nat → Thm → Nat) (Th : List Thm) : List Nat := Th.foldl (fun acc th => acc ++ [F acc th]) []
theorem bld_snoc (F : List Nat → Thm → Nat) (Th : List Thm) (th : Thm) : bld F (Th ++ [th]) = bld F Th ++ [F (bld F Th) th] := by simp [bld, List.foldl_append]
theorem bld_len (F : List Nat → Thm → Nat) : ∀ (n : Nat) (Th : List Thm), Th.length = n → (bld F Th).length = n
  | 0, Th, h => by
    have : Th = [] := List.eq_nil_of_length_eq_zero h
    subst this
    rfl
  | n + 1, Th, h => by
    have hne : Th ≠ [] := by intro e; rw [e] at h; simp at h
    obtain ⟨T, th, rfl⟩ : ∃ T th, Th = T ++ [th] := ⟨Th.dropLast, Th.getLast hne, (List.dropLast_concat_getLast hne).symm⟩
    rw [bld_snoc, List.length_append, bld_len F n T (by simpa using h)]
    rfl
theorem bld_len' (F : List Nat → Thm → Nat) (Th : List Thm) : (bld F Th).length = Th.length := bld_len F _ Th rfl
theorem bld_at (F : List Nat → Thm → Nat) : ∀ (n : Nat) (Th : List Thm) (k : Nat) (th : Thm), Th.length = n → Th[k]? = some th → (bld F Th)[k]? = some (F ((bld F Th).take k) th)
  | 0, Th, k, th, h, hk => by
    have : Th = [] := List.eq_nil_of_length_eq_zero h
    subst this
    simp at hk
  | n + 1, Th, k, th, h, hk => by
    have hne : Th ≠ [] := by intro e; rw [e] at h; simp at h
    obtain ⟨T, t0, rfl⟩ : ∃ T th, Th = T ++ [th] := ⟨Th.dropLast, Th.getLast hne, (List.dropLast_concat_getLast hne).symm⟩
    have hT : T.length = n := by simpa using h
    have hl := bld_len F n T hT
    rw [bld_snoc]
    by_cases c : k < T.length
    · rw [List.getElem?_append_left c] at hk
      rw [List.getElem?_append_left (by omega), List.take_append_of_le_length (by omega)]
      exact bld_at F n T k th hT hk
    · rw [List.getElem?_append_right (by omega)] at hk
      have hz : k - T.length < 1 := (List.getElem?_eq_some_iff.mp hk).1
      have hk2 : k = T.length := by omega
      subst hk2
      simp at hk
      subst hk
      rw [List.getElem?_append_right (by omega), List.take_append_of_le_length (by omega), List.take_of_length_le (by omega), hl, hT]
      simp
def axF (acc : List Nat) (th : Thm) : Nat := ((if nbx th.1 = 2 then acc.getD th.2.1 0 else 0) ||| (if nby th.1 = 2 then acc.getD th.2.2.1 0 else 0)) ||| (if th.1 = 0 then 2 ^ acc.length else 0)
def stF (acc : List Nat) (th : Thm) : Nat := min (1 + (if nbx th.1 = 2 then acc.getD th.2.1 0 else 0) + (if nby th.1 = 2 then acc.getD th.2.2.1 0 else 0)) 1000000
def axv (Th : List Thm) (k : Nat) : Nat := (bld axF Th).getD k 0
def stv (Th : List Thm) (k : Nat) : Nat := (bld stF Th).getD k 0
theorem take_getD {l : List Nat} {k x : Nat} (h : x < k) : (l.take k).getD x 0 = l.getD x 0 := by
  rw [List.getD_eq_getElem?_getD, List.getD_eq_getElem?_getD, List.getElem?_take_of_lt h]
theorem axv_eq {Th : List Thm} {k rl x y h c : Nat} (hk : Th[k]? = some (rl, x, y, h, c)) (hx : nbx rl = 2 → x < k) (hy : nby rl = 2 → y < k) : axv Th k = ((if nbx rl = 2 then axv Th x else 0) ||| (if nby rl = 2 then axv Th y else 0)) ||| (if rl = 0 then 2 ^ k else 0) := by
  have h1 := bld_at axF _ Th k _ rfl hk
  have hl : ((bld axF Th).take k).length = k := by
    rw [List.length_take, bld_len']
    have := (List.getElem?_eq_some_iff.mp hk).1
    omega
  unfold axv
  rw [List.getD_eq_getElem?_getD, h1]
  simp only [Option.getD_some, axF, hl]
  congr 2
  · split
    · rename_i e; rw [take_getD (hx e)]
    · rfl
  · split
    · rename_i e; rw [take_getD (hy e)]
    · rfl
theorem stv_eq {Th : List Thm} {k rl x y h c : Nat} (hk : Th[k]? = some (rl, x, y, h, c)) (hx : nbx rl = 2 → x < k) (hy : nby rl = 2 → y < k) : stv Th k = min (1 + (if nbx rl = 2 then stv Th x else 0) + (if nby rl = 2 then stv Th y else 0)) 1000000 := by
  have h1 := bld_at stF _ Th k _ rfl hk
  unfold stv
  rw [List.getD_eq_getElem?_getD, h1]
  simp only [Option.getD_some, stF]
  congr 2
  · congr 1
    split
    · rename_i e; rw [take_getD (hx e)]
    · rfl
  · split
    · rename_i e; rw [take_getD (hy e)]
    · rfl
theorem stv_le (Th : List Thm) (k : Nat) : stv Th k ≤ 1000000 := by
  by_cases c : k < Th.length
  · have h1 := bld_at stF _ Th k Th[k] rfl (List.getElem?_eq_getElem c)
    unfold stv
    rw [List.getD_eq_getElem?_getD, h1]
    simp only [Option.getD_some, stF]
    exact Nat.min_le_right _ _
  · unfold stv
    rw [List.getD_eq_getElem?_getD, List.getElem?_eq_none (by rw [bld_len']; omega)]
    simp
theorem c_B_setOf {τ : Nat × Nat} {w : pW} (P : Prop) [Decidable P] (k : Nat) (hk : P → k < 40) : pC m_B_setOf τ [.int (if P then nI k else -1)] w (fun rr w2 => rr = some (.long (lN (if P then 2 ^ k else 0))) ∧ w2 = w) := by
  by_cases h : P
  · rw [if_pos h, if_pos h]
    exact c_B_setOf_1 k (hk h)
  · rw [if_neg h, if_neg h]
    exact c_B_setOf_0
theorem c_B_stepsBefore {τ : Nat × Nat} {a : Nat → Nat} {i : Nat → Int32} {r : Nat → Nat → Int32} {L : Nat → Int64} {wr : pW} (P : Prop) [Decidable P] (k s : Nat) (hk : P → k < 40 ∧ r 10 k = nI s) : pC m_B_stepsBefore τ [.ref (a 4), .int (if P then nI k else -1)] (wX a i r L ++ wr) (fun rr w2 => rr = some (.int (nI (if P then s else 0))) ∧ w2 = wX a i r L ++ wr) := by
  by_cases h : P
  · rw [if_pos h, if_pos h, ← (hk h).2]
    exact c_B_stepsBefore_1 k (hk h).1
  · rw [if_neg h, if_neg h]
    exact c_B_stepsBefore_0
theorem eq2 {x : Int32} : x = 2 ↔ x = nI 2 := Iff.rfl
theorem or_lt40 {a b : Nat} (ha : a < 2 ^ 40) (hb : b < 2 ^ 40) : a ||| b < 2 ^ 40 := Nat.or_lt_two_pow ha hb
theorem pw_lt40 {x : Nat} (h : x < 40) : 2 ^ x < 2 ^ 40 := wb_lt2 h
theorem nat_bits {a b : Nat} (h : ∀ z, a.testBit z = true ↔ b.testBit z = true) : a = b := Nat.eq_of_testBit_eq (fun z => by
  have := h z
  cases e1 : a.testBit z <;> cases e2 : b.testBit z <;> simp_all)
theorem ite_bit {P : Prop} [Decidable P] {A z : Nat} : (if P then A else 0).testBit z = true ↔ P ∧ A.testBit z = true := by
  split
  · rename_i e; simp [e]
  · rename_i e; simp [e]
/-- one step back in the search for the axioms -/
theorem ax_step {Th : List Thm} {j met ax rl x y h c : Nat} (hk : Th[j]? = some (rl, x, y, h, c)) (hx : nbx rl = 2 → x < j) (hy : nby rl = 2 → y < j) (hm : met.testBit j = true) (z : Nat) :
    (ax.testBit z = true ∨ ∃ q, q < j + 1 ∧ met.testBit q = true ∧ (axv Th q).testBit z = true) ↔ ((if rl = 0 then ax ||| 2 ^ j else ax).testBit z = true ∨ ∃ q, q < j ∧ (met ||| ((if nbx rl = nI 2 then 2 ^ x else 0) ||| (if nby rl = nI 2 then 2 ^ y else 0))).testBit q = true ∧ (axv Th q).testBit z = true) := by
  have hax := axv_eq hk hx hy
  have hX : ∀ q, (if nbx rl = nI 2 then 2 ^ x else 0).testBit q = true ↔ nbx rl = 2 ∧ q = x := by
    intro q
    split
    · rename_i e
      rw [Nat.testBit_two_pow]
      simp only [decide_eq_true_eq]
      exact ⟨fun f => ⟨e, f.symm⟩, fun f => f.2.symm⟩
    · rename_i e
      simp
      exact fun f => absurd f e
  have hY : ∀ q, (if nby rl = nI 2 then 2 ^ y else 0).testBit q = true ↔ nby rl = 2 ∧ q = y := by
    intro q
    split
    · rename_i e
      rw [Nat.testBit_two_pow]
      simp only [decide_eq_true_eq]
      exact ⟨fun f => ⟨e, f.symm⟩, fun f => f.2.symm⟩
    · rename_i e
      simp
      exact fun f => absurd f e
  have hj : (2 ^ j).testBit z = true ↔ z = j := by
    rw [Nat.testBit_two_pow]
    simp only [decide_eq_true_eq]
    exact ⟨Eq.symm, Eq.symm⟩
  have hA : (axv Th j).testBit z = true ↔ (nbx rl = 2 ∧ (axv Th x).testBit z = true) ∨ (nby rl = 2 ∧ (axv Th y).testBit z = true) ∨ (rl = 0 ∧ z = j) := by
    rw [hax]
    simp only [Nat.testBit_or, Bool.or_eq_true]
    rw [ite_bit, ite_bit, ite_bit, hj, or_assoc]
  have hB : (if rl = 0 then ax ||| 2 ^ j else ax).testBit z = true ↔ ax.testBit z = true ∨ (rl = 0 ∧ z = j) := by
    split
    · rename_i e3
      rw [Nat.testBit_or, Bool.or_eq_true, hj]
      simp [e3]
    · rename_i e3
      simp [e3]
  rw [hB]
  simp only [Nat.testBit_or, Bool.or_eq_true, hX, hY]
  constructor
  · rintro (h1 | ⟨q, hq, h2, h3⟩)
    · exact Or.inl (Or.inl h1)
    · by_cases e : q = j
      · subst e
        rcases hA.mp h3 with ⟨g1, g2⟩ | ⟨g1, g2⟩ | g
        · exact Or.inr ⟨x, hx g1, Or.inr (Or.inl ⟨g1, rfl⟩), g2⟩
        · exact Or.inr ⟨y, hy g1, Or.inr (Or.inr ⟨g1, rfl⟩), g2⟩
        · exact Or.inl (Or.inr g)
      · exact Or.inr ⟨q, by omega, Or.inl h2, h3⟩
  · rintro ((h1 | h1) | ⟨q, hq, (h2 | ⟨g1, rfl⟩ | ⟨g1, rfl⟩), h3⟩)
    · exact Or.inl h1
    · exact Or.inr ⟨j, by omega, hm, hA.mpr (Or.inr (Or.inr h1))⟩
    · exact Or.inr ⟨q, by omega, h2, h3⟩
    · exact Or.inr ⟨j, by omega, hm, hA.mpr (Or.inl ⟨g1, h3⟩)⟩
    · exact Or.inr ⟨j, by omega, hm, hA.mpr (Or.inr (Or.inl ⟨g1, h3⟩))⟩
set_option maxRecDepth 100000 in
set_option maxHeartbeats 4000000 in
theorem c_B_axiomsOf {τ : Nat × Nat} {a : Nat → Nat} {i : Nat → Int32} {r : Nat → Nat → Int32} {L : Nat → Int64} {wr : pW} (Th : List Thm) (k : Nat) (hb : XB Th i r L) (hk : k < Th.length) : pC m_B_axiomsOf τ [.ref (a 4), .int (nI k)] (wX a i r L ++ wr) ((fun rr w2 => rr = some (.long (lN (axv Th k))) ∧ w2 = wX a i r L ++ wr)) := by
  have h40 := hb.2.1
  have key : ∀ (m met ax : Nat), m ≤ k + 1 → met < 2 ^ 40 → ax < 2 ^ 40 → (∀ z, (axv Th k).testBit z = true ↔ ax.testBit z = true ∨ ∃ q, q < m ∧ met.testBit q = true ∧ (axv Th q).testBit z = true) → pG m_B_axiomsOf τ (fun rr w2 => rr = some (.long (lN (axv Th k))) ∧ w2 = wX a i r L ++ wr) 0 0 10 [(6, .int (nI m + (-1))), (4, .long (lN ax)), (2, .long (lN met)), (0, .ref (a 4)), (1, .int (nI k))] [] (wX a i r L ++ wr) := by
    intro m
    induction m with
    | zero =>
      intro met ax hm h1 h2 hv
      refine g_iload (pc := 10) d_B_axiomsOf_10 rfl ?_
      refine g_if_lt (pc := 12) (tgt := 71) d_B_axiomsOf_12 (by decide) (fun h12 => ?_) (fun h => absurd (by decide) h)
      refine g_lload (pc := 71) d_B_axiomsOf_71 rfl ?_
      refine g_lret (pc := 73) d_B_axiomsOf_73 rfl (Nat.le_refl _) (Nat.le_refl _) ?_
      refine ⟨congrArg (fun v => some (Value.long (lN v))) (nat_bits (fun z => ?_)), rfl⟩
      rw [hv z]
      constructor
      · exact Or.inl
      · rintro (h | ⟨q, hq, -⟩)
        · exact h
        · omega
    | succ j ih =>
      intro met ax hm h1 h2 hv
      rw [pk_m1]
      obtain ⟨⟨rl, x, y, hh, cc⟩, hth⟩ : ∃ th, Th[j]? = some th := ⟨_, List.getElem?_eq_getElem (by omega)⟩
      obtain ⟨⟨g1, g2⟩, g3, g4, -, -⟩ := hb.2.2 j rl x y hh cc hth
      have hx : nbx rl = 2 → x < j := fun e => (g3 e).2
      have hy : nby rl = 2 → y < j := fun e => (g4 e).2
      have hX : (if nbx rl = nI 2 then 2 ^ x else 0) < 2 ^ 40 := by
        split
        · rename_i e; exact pw_lt40 (by have := hx e; omega)
        · decide
      have hY : (if nby rl = nI 2 then 2 ^ y else 0) < 2 ^ 40 := by
        split
        · rename_i e; exact pw_lt40 (by have := hy e; omega)
        · decide
      refine g_iload (pc := 10) d_B_axiomsOf_10 rfl ?_
      refine g_nif_lt (pc := 12) (tgt := 71) d_B_axiomsOf_12 (by decide) (by omega) ?_
      refine g_lload_n (pc := 15) d_B_axiomsOf_15 rfl ?_
      refine g_iload (pc := 16) d_B_axiomsOf_16 rfl ?_
      refine g_callSN (M' := m_K_isIn) (pc := 18) d_B_axiomsOf_18 rfl rfl (c_K_isIn met j (by omega) (by omega)) v_K_isIn rfl (by decide) rfl (Nat.le_of_ble_eq_true rfl) ?_
      rintro _ _ ⟨rfl, rfl⟩
      show pG m_B_axiomsOf τ _ 0 0 21 _ (.int _ :: _) _
      refine g_ifb_eq (pc := 21) (tgt := 65) d_B_axiomsOf_21 (by decide) (fun h21 => ?_) (fun h21 => ?_)
      · refine g_iinc (pc := 65) (v := nI j + (-1)) [(6, _), (4, _), (2, _), (0, _), (1, _)] d_B_axiomsOf_65 rfl rfl (by decide) rfl ?_
        refine g_goto (pc := 68) (tgt := 10) d_B_axiomsOf_68 (by decide) ?_
        refine g_pick [0, 1, 2, 3, 4] [(6, _), (4, _), (2, _), (0, _), (1, _)] rfl ?_
        first | exact ih _ _ (by omega) h1 h2 (fun z => (hv z).trans ⟨fun | Or.inl q => Or.inl q | Or.inr ⟨q, q1, q2, q3⟩ => Or.inr ⟨q, by rcases Nat.lt_or_ge q j with e | e; exact e; exact absurd q2 (by rw [show q = j by omega, h21]; decide), q2, q3⟩, fun | Or.inl q => Or.inl q | Or.inr ⟨q, q1, q2, q3⟩ => Or.inr ⟨q, by omega, q2, q3⟩⟩) | exact ih _ _ (by omega) (or_lt40 h1 (or_lt40 hX hY)) (or_lt40 h2 (pw_lt40 (by omega))) (fun z => (hv z).trans (by rw [ax_step hth hx hy h21 z, if_pos h53])) | exact ih _ _ (by omega) (or_lt40 h1 (or_lt40 hX hY)) h2 (fun z => (hv z).trans (by rw [ax_step hth hx hy h21 z, if_neg h53]))
      · refine g_lload_n (pc := 24) d_B_axiomsOf_24 rfl ?_
        refine g_aload_n (pc := 25) d_B_axiomsOf_25 rfl ?_
        refine g_iload (pc := 26) d_B_axiomsOf_26 rfl ?_
        refine g_callV (M' := m_B_firstPremise) (pc := 28) (q := 4) d_B_axiomsOf_28 lm_B_39 (c_B_firstPremise j rl x (by omega) g1 g2 (fun e => (g3 e).1)) v_B_firstPremise rfl rfl rfl (by decide) rfl (Nat.le_of_ble_eq_true rfl) ?_
        rintro _ _ ⟨rfl, rfl⟩
        show pG m_B_axiomsOf τ _ 0 0 31 _ (.int _ :: _) _
        refine g_callS (M' := m_B_setOf) (pc := 31) d_B_axiomsOf_31 lm_B_43 (c_B_setOf (nbx rl = nI 2) x (fun e => by have := hx e; omega)) v_B_setOf rfl (by decide) rfl (Nat.le_of_ble_eq_true rfl) ?_
        rintro _ _ ⟨rfl, rfl⟩
        show pG m_B_axiomsOf τ _ 0 0 34 _ (.long _ :: _) _
        refine g_aload_n (pc := 34) d_B_axiomsOf_34 rfl ?_
        refine g_iload (pc := 35) d_B_axiomsOf_35 rfl ?_
        refine g_callV (M' := m_B_secondPremise) (pc := 37) (q := 4) d_B_axiomsOf_37 lm_B_47 (c_B_secondPremise j rl y (by omega) g1 g2 (fun e => (g4 e).1)) v_B_secondPremise rfl rfl rfl (by decide) rfl (Nat.le_of_ble_eq_true rfl) ?_
        rintro _ _ ⟨rfl, rfl⟩
        show pG m_B_axiomsOf τ _ 0 0 40 _ (.int _ :: _) _
        refine g_callS (M' := m_B_setOf) (pc := 40) d_B_axiomsOf_40 lm_B_43 (c_B_setOf (nby rl = nI 2) y (fun e => by have := hy e; omega)) v_B_setOf rfl (by decide) rfl (Nat.le_of_ble_eq_true rfl) ?_
        rintro _ _ ⟨rfl, rfl⟩
        show pG m_B_axiomsOf τ _ 0 0 43 _ (.long _ :: _) _
        refine g_lor (pc := 43) d_B_axiomsOf_43 ?_
        refine g_topl (lN ((if nbx rl = nI 2 then 2 ^ x else 0) ||| (if nby rl = nI 2 then 2 ^ y else 0))) (wb_or (by omega) (by omega)) ?_
        refine g_lor (pc := 44) d_B_axiomsOf_44 ?_
        refine g_topl (lN (met ||| ((if nbx rl = nI 2 then 2 ^ x else 0) ||| (if nby rl = nI 2 then 2 ^ y else 0)))) (wb_or (by omega) (Nat.lt_trans (or_lt40 hX hY) (by decide))) ?_
        refine g_lstore_n (pc := 45) [(2, _), (6, _), (4, _), (0, _), (1, _)] d_B_axiomsOf_45 (by decide) rfl ?_
        refine g_aload_n (pc := 46) d_B_axiomsOf_46 rfl ?_
        refine gx_B_rules (pc := 47) d_B_axiomsOf_47 lf_B_19 ?_
        refine g_iload (pc := 50) d_B_axiomsOf_50 rfl ?_
        refine glx_B_rules (pc := 52) (v := nI rl) d_B_axiomsOf_52 (vp_in_nI (by omega) (by decide)) (by rw [nI_clamp (by omega)]; exact g1) ?_
        refine g_nif_ne (pc := 53) (tgt := 65) d_B_axiomsOf_53 (by decide) (by omega) (fun h53 => ?_) (fun h53 => ?_)
        · refine g_iinc (pc := 65) (v := nI j + (-1)) [(6, _), (2, _), (4, _), (0, _), (1, _)] d_B_axiomsOf_65 rfl rfl (by decide) rfl ?_
          refine g_goto (pc := 68) (tgt := 10) d_B_axiomsOf_68 (by decide) ?_
          refine g_pick [0, 2, 1, 3, 4] [(6, _), (4, _), (2, _), (0, _), (1, _)] rfl ?_
          first | exact ih _ _ (by omega) h1 h2 (fun z => (hv z).trans ⟨fun | Or.inl q => Or.inl q | Or.inr ⟨q, q1, q2, q3⟩ => Or.inr ⟨q, by rcases Nat.lt_or_ge q j with e | e; exact e; exact absurd q2 (by rw [show q = j by omega, h21]; decide), q2, q3⟩, fun | Or.inl q => Or.inl q | Or.inr ⟨q, q1, q2, q3⟩ => Or.inr ⟨q, by omega, q2, q3⟩⟩) | exact ih _ _ (by omega) (or_lt40 h1 (or_lt40 hX hY)) (or_lt40 h2 (pw_lt40 (by omega))) (fun z => (hv z).trans (by rw [ax_step hth hx hy h21 z, if_pos h53])) | exact ih _ _ (by omega) (or_lt40 h1 (or_lt40 hX hY)) h2 (fun z => (hv z).trans (by rw [ax_step hth hx hy h21 z, if_neg h53]))
        · refine g_lload (pc := 56) d_B_axiomsOf_56 rfl ?_
          refine g_lconst (pc := 58) (v := lN 1) d_B_axiomsOf_58 (by decide) ?_
          refine g_iload (pc := 59) d_B_axiomsOf_59 rfl ?_
          refine g_lshl (pc := 61) d_B_axiomsOf_61 ?_
          rw [lb_1 j (by omega)]
          refine g_lor (pc := 62) d_B_axiomsOf_62 ?_
          refine g_topl (lN (ax ||| 2 ^ j)) (wb_or (by omega) (Nat.lt_trans (pw_lt40 (by omega)) (by decide))) ?_
          refine g_lstore (pc := 63) [(4, _), (2, _), (6, _), (0, _), (1, _)] d_B_axiomsOf_63 (by decide) rfl ?_
          refine g_iinc (pc := 65) (v := nI j + (-1)) [(6, _), (4, _), (2, _), (0, _), (1, _)] d_B_axiomsOf_65 rfl rfl (by decide) rfl ?_
          refine g_goto (pc := 68) (tgt := 10) d_B_axiomsOf_68 (by decide) ?_
          refine g_pick [0, 1, 2, 3, 4] [(6, _), (4, _), (2, _), (0, _), (1, _)] rfl ?_
          first | exact ih _ _ (by omega) h1 h2 (fun z => (hv z).trans ⟨fun | Or.inl q => Or.inl q | Or.inr ⟨q, q1, q2, q3⟩ => Or.inr ⟨q, by rcases Nat.lt_or_ge q j with e | e; exact e; exact absurd q2 (by rw [show q = j by omega, h21]; decide), q2, q3⟩, fun | Or.inl q => Or.inl q | Or.inr ⟨q, q1, q2, q3⟩ => Or.inr ⟨q, by omega, q2, q3⟩⟩) | exact ih _ _ (by omega) (or_lt40 h1 (or_lt40 hX hY)) (or_lt40 h2 (pw_lt40 (by omega))) (fun z => (hv z).trans (by rw [ax_step hth hx hy h21 z, if_pos h53])) | exact ih _ _ (by omega) (or_lt40 h1 (or_lt40 hX hY)) h2 (fun z => (hv z).trans (by rw [ax_step hth hx hy h21 z, if_neg h53]))
  refine pC.of rfl (Nat.le_of_ble_eq_true rfl) ?_
  show pG m_B_axiomsOf τ _ 0 0 0 [(0, _), (1, _)] [] _
  refine g_lconst (pc := 0) (v := lN 1) d_B_axiomsOf_0 (by decide) ?_
  refine g_iload_n (pc := 1) d_B_axiomsOf_1 rfl ?_
  refine g_lshl (pc := 2) d_B_axiomsOf_2 ?_
  rw [lb_1 k (by omega)]
  refine g_lstore_n (pc := 3) [(2, _), (0, _), (1, _)] d_B_axiomsOf_3 (by decide) rfl ?_
  refine g_lconst (pc := 4) (v := lN 0) d_B_axiomsOf_4 (by decide) ?_
  refine g_lstore (pc := 5) [(4, _), (2, _), (0, _), (1, _)] d_B_axiomsOf_5 (by decide) rfl ?_
  refine g_iload_n (pc := 7) d_B_axiomsOf_7 rfl ?_
  refine g_istore (pc := 8) [(6, _), (4, _), (2, _), (0, _), (1, _)] d_B_axiomsOf_8 (by decide) rfl ?_
  refine g_pick [0, 1, 2, 3, 4] [(6, _), (4, _), (2, _), (0, _), (1, _)] rfl ?_
  have := key (k + 1) (2 ^ k) 0 (by omega) (pw_lt40 (by omega)) (by decide) (fun z => by
    constructor
    · intro h; exact Or.inr ⟨k, by omega, Nat.testBit_two_pow_self, h⟩
    · rintro (h | ⟨q, hq, h1, h2⟩)
      · simp at h
      · rw [Nat.testBit_two_pow] at h1
        simp at h1
        rw [h1]
        exact h2)
  rw [pk_m1] at this
  exact this
theorem min_eq (s M : Nat) (h : s < 2 ^ 31 ∧ M = 1000000) : (if (1000000 : Int32) < nI s then (1000000 : Int32) else nI s) = nI (min s M) := by
  obtain ⟨h1, rfl⟩ := h
  have e : (1000000 : Int32) = nI 1000000 := rfl
  rw [e]
  by_cases c : 1000000 < s
  · rw [if_pos ((nI_ltI (by decide) h1).mpr c), Nat.min_eq_right (by omega)]
  · rw [if_neg (fun q => c ((nI_ltI (by decide) h1).mp q)), Nat.min_eq_left (by omega)]
set_option maxRecDepth 100000 in
set_option maxHeartbeats 4000000 in
theorem c_B_stepsOf {τ : Nat × Nat} {a : Nat → Nat} {i : Nat → Int32} {r : Nat → Nat → Int32} {L : Nat → Int64} {wr : pW} (Th : List Thm) (k : Nat) (hb : XB Th i r L) (hk : k < Th.length) : pC m_B_stepsOf τ [.ref (a 4), .int (nI k)] (wX a i r L ++ wr) ((fun rr w2 => ∃ r2, rr = some (.int (nI (stv Th k))) ∧ w2 = wX a i r2 L ++ wr ∧ ∀ j, j ≠ 10 → r2 j = r j)) := by
  have h40 := hb.2.1
  have key : ∀ (m q : Nat) (r1 : Nat → Nat → Int32), k + 1 - q = m → q ≤ k + 1 → (∀ z, z < q → r1 10 z = nI (stv Th z)) → (∀ j, j ≠ 10 → r1 j = r j) → pG m_B_stepsOf τ (fun rr w2 => ∃ r2, rr = some (.int (nI (stv Th k))) ∧ w2 = wX a i r2 L ++ wr ∧ ∀ j, j ≠ 10 → r2 j = r j) 0 0 2 [(2, .int (nI q)), (0, .ref (a 4)), (1, .int (nI k))] [] (wX a i r1 L ++ wr) := by
    intro m
    induction m with
    | zero =>
      intro q r1 hm hq hz hr
      refine g_iload_n (pc := 2) d_B_stepsOf_2 rfl ?_
      refine g_iload_n (pc := 3) d_B_stepsOf_3 rfl ?_
      refine g_nicmp_gt (pc := 4) (tgt := 47) d_B_stepsOf_4 (by decide) (by omega) (by omega) (fun h4 => ?_) (fun h => absurd h (by omega))
      refine g_aload_n (pc := 47) d_B_stepsOf_47 rfl ?_
      refine gx_B_stepsUpTo (pc := 48) d_B_stepsOf_48 lf_B_28 ?_
      refine g_iload_n (pc := 51) d_B_stepsOf_51 rfl ?_
      refine glx_B_stepsUpTo (pc := 52) d_B_stepsOf_52 (vp_in_nI (by omega) (by decide)) rfl ?_
      refine g_iret (pc := 53) d_B_stepsOf_53 rfl (Nat.le_refl _) (Nat.le_refl _) ?_
      exact ⟨r1, by rw [nI_clamp (by omega), hz k (by omega)], rfl, hr⟩
    | succ m ih =>
      intro q r1 hm hq hz hr
      obtain ⟨⟨rl, x, y, hh, cc⟩, hth⟩ : ∃ th, Th[q]? = some th := ⟨_, List.getElem?_eq_getElem (by omega)⟩
      obtain ⟨⟨g1, g2⟩, g3, g4, -, -⟩ := hb.2.2 q rl x y hh cc hth
      rw [← hr 7 (by decide)] at g1
      rw [← hr 8 (by decide)] at g3
      rw [← hr 9 (by decide)] at g4
      have hst := stv_eq hth (fun e => (g3 e).2) (fun e => (g4 e).2)
      have hlx := stv_le Th x
      have hly := stv_le Th y
      have hsx : (if nbx rl = nI 2 then stv Th x else 0) ≤ 1000000 := by split <;> omega
      have hsy : (if nby rl = nI 2 then stv Th y else 0) ≤ 1000000 := by split <;> omega
      refine g_iload_n (pc := 2) d_B_stepsOf_2 rfl ?_
      refine g_iload_n (pc := 3) d_B_stepsOf_3 rfl ?_
      refine g_nicmp_gt (pc := 4) (tgt := 47) d_B_stepsOf_4 (by decide) (by omega) (by omega) (fun h => absurd h (by omega)) (fun h4 => ?_)
      refine g_iconst (pc := 7) (v := nI 1) d_B_stepsOf_7 (by decide) ?_
      refine g_aload_n (pc := 8) d_B_stepsOf_8 rfl ?_
      refine g_aload_n (pc := 9) d_B_stepsOf_9 rfl ?_
      refine g_iload_n (pc := 10) d_B_stepsOf_10 rfl ?_
      refine g_callV (M' := m_B_firstPremise) (pc := 11) (q := 4) d_B_stepsOf_11 lm_B_39 (c_B_firstPremise q rl x (by omega) g1 g2 (fun e => (g3 e).1)) v_B_firstPremise rfl rfl rfl (by decide) rfl (Nat.le_of_ble_eq_true rfl) ?_
      rintro _ _ ⟨rfl, rfl⟩
      show pG m_B_stepsOf τ _ 0 0 14 _ (.int _ :: _) _
      refine g_callV (M' := m_B_stepsBefore) (pc := 14) (q := 4) d_B_stepsOf_14 lm_B_50 (c_B_stepsBefore (nbx rl = nI 2) x (stv Th x) (fun e => ⟨by have := (g3 e).2; omega, hz x (g3 e).2⟩)) v_B_stepsBefore rfl rfl rfl (by decide) rfl (Nat.le_of_ble_eq_true rfl) ?_
      rintro _ _ ⟨rfl, rfl⟩
      show pG m_B_stepsOf τ _ 0 0 17 _ (.int _ :: _) _
      refine g_nadd (pc := 17) d_B_stepsOf_17 ?_
      refine g_aload_n (pc := 18) d_B_stepsOf_18 rfl ?_
      refine g_aload_n (pc := 19) d_B_stepsOf_19 rfl ?_
      refine g_iload_n (pc := 20) d_B_stepsOf_20 rfl ?_
      refine g_callV (M' := m_B_secondPremise) (pc := 21) (q := 4) d_B_stepsOf_21 lm_B_47 (c_B_secondPremise q rl y (by omega) g1 g2 (fun e => (g4 e).1)) v_B_secondPremise rfl rfl rfl (by decide) rfl (Nat.le_of_ble_eq_true rfl) ?_
      rintro _ _ ⟨rfl, rfl⟩
      show pG m_B_stepsOf τ _ 0 0 24 _ (.int _ :: _) _
      refine g_callV (M' := m_B_stepsBefore) (pc := 24) (q := 4) d_B_stepsOf_24 lm_B_50 (c_B_stepsBefore (nby rl = nI 2) y (stv Th y) (fun e => ⟨by have := (g4 e).2; omega, hz y (g4 e).2⟩)) v_B_stepsBefore rfl rfl rfl (by decide) rfl (Nat.le_of_ble_eq_true rfl) ?_
      rintro _ _ ⟨rfl, rfl⟩
      show pG m_B_stepsOf τ _ 0 0 27 _ (.int _ :: _) _
      refine g_nadd (pc := 27) d_B_stepsOf_27 ?_
      refine g_istore_n (pc := 28) [(3, _), (2, _), (0, _), (1, _)] d_B_stepsOf_28 (by decide) rfl ?_
      refine g_aload_n (pc := 29) d_B_stepsOf_29 rfl ?_
      refine gx_B_stepsUpTo (pc := 30) d_B_stepsOf_30 lf_B_28 ?_
      refine g_iload_n (pc := 33) d_B_stepsOf_33 rfl ?_
      refine g_iload_n (pc := 34) d_B_stepsOf_34 rfl ?_
      refine g_ldc (pc := 35) d_B_stepsOf_35 lk_B_53 ?_
      refine g_mmin (pc := 37) (v := nI (stv Th q)) d_B_stepsOf_37 lm_B_54 (by decide) (Nat.le_of_ble_eq_true rfl) ⟨Nat.le_refl _, Nat.le_refl _⟩ (by rw [hst]; exact min_eq _ _ ⟨by omega, rfl⟩) ?_
      refine gsx_B_stepsUpTo (pc := 40) d_B_stepsOf_40 (vp_in_nI (by omega) (by decide)) ?_
      refine g_niinc (pc := 41) [(2, _), (3, _), (0, _), (1, _)] d_B_stepsOf_41 rfl (by decide) rfl ?_
      refine g_goto (pc := 44) (tgt := 2) d_B_stepsOf_44 (by decide) ?_
      refine g_pick [0, 2, 3] [(2, _), (0, _), (1, _)] rfl ?_
      refine ih (q + 1) (va_up r1 10 (upd (r1 10) (nI q).toNatClampNeg (nI (stv Th q)))) (by omega) (by omega) ?_ (fun j hj => (up_n hj).trans (hr j hj))
      rw [up_s, nI_clamp (by omega)]
      exact lt_s (fun z hzq => by rw [pk_un (by omega)]; exact hz z hzq) pk_us
  refine pC.of rfl (Nat.le_of_ble_eq_true rfl) ?_
  show pG m_B_stepsOf τ _ 0 0 0 [(0, _), (1, _)] [] _
  refine g_iconst (pc := 0) (v := nI 0) d_B_stepsOf_0 (by decide) ?_
  refine g_istore_n (pc := 1) [(2, _), (0, _), (1, _)] d_B_stepsOf_1 (by decide) rfl ?_
  exact key _ 0 r rfl (Nat.zero_le _) lt_0 (fun _ _ => rfl)
end
