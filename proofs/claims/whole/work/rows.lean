section
-- ===== PART A: goes FIRST, ahead of the names: the tables' words, and 'selects' of the private methods out of them =====
/-- a private method of a class that the tables say can be made, by its rows of tables_1 -/
def lw_okq (q : MethodName × Nat) : Prop := (q.1.cls ≠ "java/lang/invoke/MethodHandle" ∧ q.1.cls ≠ "java/lang/invoke/VarHandle") ∧ Cond.instantiable q.1.cls q.2 ∈ tables_1 ∧ Cond.privateMethod q.1 ∈ tables_1 ∧ Cond.instanceMethod q.1 ∈ tables_1
theorem lw_p0 : lw_okq (⟨"LentSounds$History", "dropOldest", "()V"⟩, 2) := ⟨⟨by decide +kernel, by decide +kernel⟩, List.mem_of_getElem? (i := 133) (by decide +kernel), List.mem_of_getElem? (i := 305) (by decide +kernel), List.mem_of_getElem? (i := 306) (by decide +kernel)⟩
theorem lw_p1 : lw_okq (⟨"LentSounds$History", "at", "(I)LLentSounds$State;"⟩, 2) := ⟨⟨by decide +kernel, by decide +kernel⟩, List.mem_of_getElem? (i := 133) (by decide +kernel), List.mem_of_getElem? (i := 309) (by decide +kernel), List.mem_of_getElem? (i := 310) (by decide +kernel)⟩
theorem lw_p2 : lw_okq (⟨"LentSounds$CueReader", "readCue", "(LLentSounds$Text;)V"⟩, 4) := ⟨⟨by decide +kernel, by decide +kernel⟩, List.mem_of_getElem? (i := 167) (by decide +kernel), List.mem_of_getElem? (i := 355) (by decide +kernel), List.mem_of_getElem? (i := 356) (by decide +kernel)⟩
theorem lw_p3 : lw_okq (⟨"LentSounds$CueReader", "readNumber", "(LLentSounds$Text;II)I"⟩, 4) := ⟨⟨by decide +kernel, by decide +kernel⟩, List.mem_of_getElem? (i := 167) (by decide +kernel), List.mem_of_getElem? (i := 359) (by decide +kernel), List.mem_of_getElem? (i := 360) (by decide +kernel)⟩
theorem lw_p4 : lw_okq (⟨"LentSounds$CueReader", "readSign", "(LLentSounds$Text;C)V"⟩, 4) := ⟨⟨by decide +kernel, by decide +kernel⟩, List.mem_of_getElem? (i := 167) (by decide +kernel), List.mem_of_getElem? (i := 373) (by decide +kernel), List.mem_of_getElem? (i := 374) (by decide +kernel)⟩
theorem lw_p5 : lw_okq (⟨"LentSounds$CueReader", "addDraft", "(IIII)V"⟩, 4) := ⟨⟨by decide +kernel, by decide +kernel⟩, List.mem_of_getElem? (i := 167) (by decide +kernel), List.mem_of_getElem? (i := 377) (by decide +kernel), List.mem_of_getElem? (i := 378) (by decide +kernel)⟩
theorem lw_p6 : lw_okq (⟨"LentSounds$CueList", "moveToItsPlace", "(I)V"⟩, 6) := ⟨⟨by decide +kernel, by decide +kernel⟩, List.mem_of_getElem? (i := 41) (by decide +kernel), List.mem_of_getElem? (i := 395) (by decide +kernel), List.mem_of_getElem? (i := 396) (by decide +kernel)⟩
theorem lw_p7 : lw_okq (⟨"LentSounds$CueList", "order", "(I)I"⟩, 6) := ⟨⟨by decide +kernel, by decide +kernel⟩, List.mem_of_getElem? (i := 41) (by decide +kernel), List.mem_of_getElem? (i := 399) (by decide +kernel), List.mem_of_getElem? (i := 400) (by decide +kernel)⟩
theorem lw_p8 : lw_okq (⟨"LentSounds$CueList", "swap", "(II)V"⟩, 6) := ⟨⟨by decide +kernel, by decide +kernel⟩, List.mem_of_getElem? (i := 41) (by decide +kernel), List.mem_of_getElem? (i := 403) (by decide +kernel), List.mem_of_getElem? (i := 404) (by decide +kernel)⟩
theorem lw_p9 : lw_okq (⟨"LentSounds$CueList", "timesIn", "(LLentSounds$Row;I)I"⟩, 6) := ⟨⟨by decide +kernel, by decide +kernel⟩, List.mem_of_getElem? (i := 41) (by decide +kernel), List.mem_of_getElem? (i := 435) (by decide +kernel), List.mem_of_getElem? (i := 436) (by decide +kernel)⟩
theorem lw_p10 : lw_okq (⟨"LentSounds", "rehearse", "(I)V"⟩, 7) := ⟨⟨by decide +kernel, by decide +kernel⟩, List.mem_of_getElem? (i := 13) (by decide +kernel), List.mem_of_getElem? (i := 460) (by decide +kernel), List.mem_of_getElem? (i := 461) (by decide +kernel)⟩
theorem lw_p11 : lw_okq (⟨"LentSounds$Rehearsal", "doCue", "(ILLentSounds$State;)V"⟩, 15) := ⟨⟨by decide +kernel, by decide +kernel⟩, List.mem_of_getElem? (i := 192) (by decide +kernel), List.mem_of_getElem? (i := 479) (by decide +kernel), List.mem_of_getElem? (i := 480) (by decide +kernel)⟩
theorem lw_p12 : lw_okq (⟨"LentSounds$Rehearsal", "nearestHand", "(II)I"⟩, 15) := ⟨⟨by decide +kernel, by decide +kernel⟩, List.mem_of_getElem? (i := 192) (by decide +kernel), List.mem_of_getElem? (i := 483) (by decide +kernel), List.mem_of_getElem? (i := 484) (by decide +kernel)⟩
theorem lw_p13 : lw_okq (⟨"LentSounds$Rehearsal", "wayTo", "(II)I"⟩, 15) := ⟨⟨by decide +kernel, by decide +kernel⟩, List.mem_of_getElem? (i := 192) (by decide +kernel), List.mem_of_getElem? (i := 487) (by decide +kernel), List.mem_of_getElem? (i := 488) (by decide +kernel)⟩
theorem lw_p14 : lw_okq (⟨"LentSounds$Rehearsal", "reasonToMiss", "(ILLentSounds$State;I)I"⟩, 15) := ⟨⟨by decide +kernel, by decide +kernel⟩, List.mem_of_getElem? (i := 192) (by decide +kernel), List.mem_of_getElem? (i := 494) (by decide +kernel), List.mem_of_getElem? (i := 495) (by decide +kernel)⟩
theorem lw_p15 : lw_okq (⟨"LentSounds$Rehearsal", "isLent", "(II)Z"⟩, 15) := ⟨⟨by decide +kernel, by decide +kernel⟩, List.mem_of_getElem? (i := 192) (by decide +kernel), List.mem_of_getElem? (i := 498) (by decide +kernel), List.mem_of_getElem? (i := 499) (by decide +kernel)⟩
def lw_privs_1 : List (MethodName × Nat) := [(⟨"LentSounds$History", "dropOldest", "()V"⟩, 2), (⟨"LentSounds$History", "at", "(I)LLentSounds$State;"⟩, 2), (⟨"LentSounds$CueReader", "readCue", "(LLentSounds$Text;)V"⟩, 4), (⟨"LentSounds$CueReader", "readNumber", "(LLentSounds$Text;II)I"⟩, 4), (⟨"LentSounds$CueReader", "readSign", "(LLentSounds$Text;C)V"⟩, 4), (⟨"LentSounds$CueReader", "addDraft", "(IIII)V"⟩, 4), (⟨"LentSounds$CueList", "moveToItsPlace", "(I)V"⟩, 6), (⟨"LentSounds$CueList", "order", "(I)I"⟩, 6), (⟨"LentSounds$CueList", "swap", "(II)V"⟩, 6), (⟨"LentSounds$CueList", "timesIn", "(LLentSounds$Row;I)I"⟩, 6), (⟨"LentSounds", "rehearse", "(I)V"⟩, 7), (⟨"LentSounds$Rehearsal", "doCue", "(ILLentSounds$State;)V"⟩, 15), (⟨"LentSounds$Rehearsal", "nearestHand", "(II)I"⟩, 15), (⟨"LentSounds$Rehearsal", "wayTo", "(II)I"⟩, 15), (⟨"LentSounds$Rehearsal", "reasonToMiss", "(ILLentSounds$State;I)I"⟩, 15), (⟨"LentSounds$Rehearsal", "isLent", "(II)Z"⟩, 15)]
theorem lw_r1 : ∀ q ∈ lw_privs_1, lw_okq q := List.forall_mem_cons.mpr ⟨lw_p0, List.forall_mem_cons.mpr ⟨lw_p1, List.forall_mem_cons.mpr ⟨lw_p2, List.forall_mem_cons.mpr ⟨lw_p3, List.forall_mem_cons.mpr ⟨lw_p4, List.forall_mem_cons.mpr ⟨lw_p5, List.forall_mem_cons.mpr ⟨lw_p6, List.forall_mem_cons.mpr ⟨lw_p7, List.forall_mem_cons.mpr ⟨lw_p8, List.forall_mem_cons.mpr ⟨lw_p9, List.forall_mem_cons.mpr ⟨lw_p10, List.forall_mem_cons.mpr ⟨lw_p11, List.forall_mem_cons.mpr ⟨lw_p12, List.forall_mem_cons.mpr ⟨lw_p13, List.forall_mem_cons.mpr ⟨lw_p14, List.forall_mem_cons.mpr ⟨lw_p15, fun _ h => absurd h List.not_mem_nil⟩⟩⟩⟩⟩⟩⟩⟩⟩⟩⟩⟩⟩⟩⟩⟩
theorem lw_p16 : lw_okq (⟨"LentSounds$Rehearsal", "play", "(ILLentSounds$CueList;II)V"⟩, 15) := ⟨⟨by decide +kernel, by decide +kernel⟩, List.mem_of_getElem? (i := 192) (by decide +kernel), List.mem_of_getElem? (i := 502) (by decide +kernel), List.mem_of_getElem? (i := 503) (by decide +kernel)⟩
theorem lw_p17 : lw_okq (⟨"LentSounds$Rehearsal", "miss", "(ILLentSounds$State;)V"⟩, 15) := ⟨⟨by decide +kernel, by decide +kernel⟩, List.mem_of_getElem? (i := 192) (by decide +kernel), List.mem_of_getElem? (i := 511) (by decide +kernel), List.mem_of_getElem? (i := 512) (by decide +kernel)⟩
theorem lw_p18 : lw_okq (⟨"LentSoundsModel", "sets", "(II)I"⟩, 25) := ⟨⟨by decide +kernel, by decide +kernel⟩, List.mem_of_getElem? (i := 605) (by decide +kernel), List.mem_of_getElem? (i := 703) (by decide +kernel), List.mem_of_getElem? (i := 704) (by decide +kernel)⟩
theorem lw_p19 : lw_okq (⟨"LentSoundsModel", "remember", "()V"⟩, 25) := ⟨⟨by decide +kernel, by decide +kernel⟩, List.mem_of_getElem? (i := 605) (by decide +kernel), List.mem_of_getElem? (i := 707) (by decide +kernel), List.mem_of_getElem? (i := 708) (by decide +kernel)⟩
theorem lw_p20 : lw_okq (⟨"LentSoundsModel", "acted", "(I)I"⟩, 25) := ⟨⟨by decide +kernel, by decide +kernel⟩, List.mem_of_getElem? (i := 605) (by decide +kernel), List.mem_of_getElem? (i := 714) (by decide +kernel), List.mem_of_getElem? (i := 715) (by decide +kernel)⟩
theorem lw_p21 : lw_okq (⟨"LentSoundsModel", "becomeHands", "(I)V"⟩, 25) := ⟨⟨by decide +kernel, by decide +kernel⟩, List.mem_of_getElem? (i := 605) (by decide +kernel), List.mem_of_getElem? (i := 722) (by decide +kernel), List.mem_of_getElem? (i := 723) (by decide +kernel)⟩
theorem lw_p22 : lw_okq (⟨"LentSoundsModel", "isHand", "(I)Z"⟩, 25) := ⟨⟨by decide +kernel, by decide +kernel⟩, List.mem_of_getElem? (i := 605) (by decide +kernel), List.mem_of_getElem? (i := 730) (by decide +kernel), List.mem_of_getElem? (i := 731) (by decide +kernel)⟩
theorem lw_p23 : lw_okq (⟨"LentSoundsModel", "fault", "()I"⟩, 25) := ⟨⟨by decide +kernel, by decide +kernel⟩, List.mem_of_getElem? (i := 605) (by decide +kernel), List.mem_of_getElem? (i := 751) (by decide +kernel), List.mem_of_getElem? (i := 752) (by decide +kernel)⟩
theorem lw_p24 : lw_okq (⟨"LentSoundsModel", "readsCue", "()Z"⟩, 25) := ⟨⟨by decide +kernel, by decide +kernel⟩, List.mem_of_getElem? (i := 605) (by decide +kernel), List.mem_of_getElem? (i := 755) (by decide +kernel), List.mem_of_getElem? (i := 756) (by decide +kernel)⟩
theorem lw_p25 : lw_okq (⟨"LentSoundsModel", "readsNumber", "(II)Z"⟩, 25) := ⟨⟨by decide +kernel, by decide +kernel⟩, List.mem_of_getElem? (i := 605) (by decide +kernel), List.mem_of_getElem? (i := 759) (by decide +kernel), List.mem_of_getElem? (i := 760) (by decide +kernel)⟩
theorem lw_p26 : lw_okq (⟨"LentSoundsModel", "isHere", "(II)Z"⟩, 25) := ⟨⟨by decide +kernel, by decide +kernel⟩, List.mem_of_getElem? (i := 605) (by decide +kernel), List.mem_of_getElem? (i := 763) (by decide +kernel), List.mem_of_getElem? (i := 764) (by decide +kernel)⟩
theorem lw_p27 : lw_okq (⟨"LentSoundsModel", "takes", "(I)Z"⟩, 25) := ⟨⟨by decide +kernel, by decide +kernel⟩, List.mem_of_getElem? (i := 605) (by decide +kernel), List.mem_of_getElem? (i := 767) (by decide +kernel), List.mem_of_getElem? (i := 768) (by decide +kernel)⟩
theorem lw_p28 : lw_okq (⟨"LentSoundsModel", "isTwice", "(I)Z"⟩, 25) := ⟨⟨by decide +kernel, by decide +kernel⟩, List.mem_of_getElem? (i := 605) (by decide +kernel), List.mem_of_getElem? (i := 771) (by decide +kernel), List.mem_of_getElem? (i := 772) (by decide +kernel)⟩
theorem lw_p29 : lw_okq (⟨"LentSoundsModel", "rankAt", "(I)I"⟩, 25) := ⟨⟨by decide +kernel, by decide +kernel⟩, List.mem_of_getElem? (i := 605) (by decide +kernel), List.mem_of_getElem? (i := 775) (by decide +kernel), List.mem_of_getElem? (i := 776) (by decide +kernel)⟩
theorem lw_p30 : lw_okq (⟨"LentSoundsModel", "of", "(II)I"⟩, 25) := ⟨⟨by decide +kernel, by decide +kernel⟩, List.mem_of_getElem? (i := 605) (by decide +kernel), List.mem_of_getElem? (i := 779) (by decide +kernel), List.mem_of_getElem? (i := 780) (by decide +kernel)⟩
theorem lw_p31 : lw_okq (⟨"LentSoundsModel", "rankRead", "(I)I"⟩, 25) := ⟨⟨by decide +kernel, by decide +kernel⟩, List.mem_of_getElem? (i := 605) (by decide +kernel), List.mem_of_getElem? (i := 786) (by decide +kernel), List.mem_of_getElem? (i := 787) (by decide +kernel)⟩
def lw_privs_2 : List (MethodName × Nat) := [(⟨"LentSounds$Rehearsal", "play", "(ILLentSounds$CueList;II)V"⟩, 15), (⟨"LentSounds$Rehearsal", "miss", "(ILLentSounds$State;)V"⟩, 15), (⟨"LentSoundsModel", "sets", "(II)I"⟩, 25), (⟨"LentSoundsModel", "remember", "()V"⟩, 25), (⟨"LentSoundsModel", "acted", "(I)I"⟩, 25), (⟨"LentSoundsModel", "becomeHands", "(I)V"⟩, 25), (⟨"LentSoundsModel", "isHand", "(I)Z"⟩, 25), (⟨"LentSoundsModel", "fault", "()I"⟩, 25), (⟨"LentSoundsModel", "readsCue", "()Z"⟩, 25), (⟨"LentSoundsModel", "readsNumber", "(II)Z"⟩, 25), (⟨"LentSoundsModel", "isHere", "(II)Z"⟩, 25), (⟨"LentSoundsModel", "takes", "(I)Z"⟩, 25), (⟨"LentSoundsModel", "isTwice", "(I)Z"⟩, 25), (⟨"LentSoundsModel", "rankAt", "(I)I"⟩, 25), (⟨"LentSoundsModel", "of", "(II)I"⟩, 25), (⟨"LentSoundsModel", "rankRead", "(I)I"⟩, 25)]
theorem lw_r2 : ∀ q ∈ lw_privs_2, lw_okq q := List.forall_mem_cons.mpr ⟨lw_p16, List.forall_mem_cons.mpr ⟨lw_p17, List.forall_mem_cons.mpr ⟨lw_p18, List.forall_mem_cons.mpr ⟨lw_p19, List.forall_mem_cons.mpr ⟨lw_p20, List.forall_mem_cons.mpr ⟨lw_p21, List.forall_mem_cons.mpr ⟨lw_p22, List.forall_mem_cons.mpr ⟨lw_p23, List.forall_mem_cons.mpr ⟨lw_p24, List.forall_mem_cons.mpr ⟨lw_p25, List.forall_mem_cons.mpr ⟨lw_p26, List.forall_mem_cons.mpr ⟨lw_p27, List.forall_mem_cons.mpr ⟨lw_p28, List.forall_mem_cons.mpr ⟨lw_p29, List.forall_mem_cons.mpr ⟨lw_p30, List.forall_mem_cons.mpr ⟨lw_p31, fun _ h => absurd h List.not_mem_nil⟩⟩⟩⟩⟩⟩⟩⟩⟩⟩⟩⟩⟩⟩⟩⟩
theorem lw_p32 : lw_okq (⟨"LentSoundsModel", "putsIn", "(IIII)V"⟩, 25) := ⟨⟨by decide +kernel, by decide +kernel⟩, List.mem_of_getElem? (i := 605) (by decide +kernel), List.mem_of_getElem? (i := 790) (by decide +kernel), List.mem_of_getElem? (i := 791) (by decide +kernel)⟩
theorem lw_p33 : lw_okq (⟨"LentSoundsModel", "isCue", "(I)Z"⟩, 25) := ⟨⟨by decide +kernel, by decide +kernel⟩, List.mem_of_getElem? (i := 605) (by decide +kernel), List.mem_of_getElem? (i := 798) (by decide +kernel), List.mem_of_getElem? (i := 799) (by decide +kernel)⟩
theorem lw_p34 : lw_okq (⟨"LentSoundsModel", "takesOut", "(I)V"⟩, 25) := ⟨⟨by decide +kernel, by decide +kernel⟩, List.mem_of_getElem? (i := 605) (by decide +kernel), List.mem_of_getElem? (i := 802) (by decide +kernel), List.mem_of_getElem? (i := 803) (by decide +kernel)⟩
theorem lw_p35 : lw_okq (⟨"LentSoundsModel", "canShift", "(II)Z"⟩, 25) := ⟨⟨by decide +kernel, by decide +kernel⟩, List.mem_of_getElem? (i := 605) (by decide +kernel), List.mem_of_getElem? (i := 816) (by decide +kernel), List.mem_of_getElem? (i := 817) (by decide +kernel)⟩
theorem lw_p36 : lw_okq (⟨"LentSoundsModel", "cuesOf", "(I)I"⟩, 25) := ⟨⟨by decide +kernel, by decide +kernel⟩, List.mem_of_getElem? (i := 605) (by decide +kernel), List.mem_of_getElem? (i := 821) (by decide +kernel), List.mem_of_getElem? (i := 822) (by decide +kernel)⟩
theorem lw_p37 : lw_okq (⟨"LentSoundsModel", "takesOutScene", "(I)V"⟩, 25) := ⟨⟨by decide +kernel, by decide +kernel⟩, List.mem_of_getElem? (i := 605) (by decide +kernel), List.mem_of_getElem? (i := 825) (by decide +kernel), List.mem_of_getElem? (i := 826) (by decide +kernel)⟩
theorem lw_p38 : lw_okq (⟨"LentSoundsModel", "plays", "()V"⟩, 25) := ⟨⟨by decide +kernel, by decide +kernel⟩, List.mem_of_getElem? (i := 605) (by decide +kernel), List.mem_of_getElem? (i := 837) (by decide +kernel), List.mem_of_getElem? (i := 838) (by decide +kernel)⟩
theorem lw_p39 : lw_okq (⟨"LentSoundsModel", "comesTo", "(I)V"⟩, 25) := ⟨⟨by decide +kernel, by decide +kernel⟩, List.mem_of_getElem? (i := 605) (by decide +kernel), List.mem_of_getElem? (i := 841) (by decide +kernel), List.mem_of_getElem? (i := 842) (by decide +kernel)⟩
theorem lw_p40 : lw_okq (⟨"LentSoundsModel", "handFor", "(II)I"⟩, 25) := ⟨⟨by decide +kernel, by decide +kernel⟩, List.mem_of_getElem? (i := 605) (by decide +kernel), List.mem_of_getElem? (i := 845) (by decide +kernel), List.mem_of_getElem? (i := 846) (by decide +kernel)⟩
theorem lw_p41 : lw_okq (⟨"LentSoundsModel", "isThere", "(I)Z"⟩, 25) := ⟨⟨by decide +kernel, by decide +kernel⟩, List.mem_of_getElem? (i := 605) (by decide +kernel), List.mem_of_getElem? (i := 852) (by decide +kernel), List.mem_of_getElem? (i := 853) (by decide +kernel)⟩
theorem lw_p42 : lw_okq (⟨"LentSoundsModel", "cuesOfSound", "(IZ)I"⟩, 25) := ⟨⟨by decide +kernel, by decide +kernel⟩, List.mem_of_getElem? (i := 605) (by decide +kernel), List.mem_of_getElem? (i := 872) (by decide +kernel), List.mem_of_getElem? (i := 873) (by decide +kernel)⟩
theorem lw_p43 : lw_okq (⟨"LentSoundsModel", "tries", "()V"⟩, 25) := ⟨⟨by decide +kernel, by decide +kernel⟩, List.mem_of_getElem? (i := 605) (by decide +kernel), List.mem_of_getElem? (i := 876) (by decide +kernel), List.mem_of_getElem? (i := 877) (by decide +kernel)⟩
theorem lw_p44 : lw_okq (⟨"LentSoundsModel", "lacks", "(I)I"⟩, 25) := ⟨⟨by decide +kernel, by decide +kernel⟩, List.mem_of_getElem? (i := 605) (by decide +kernel), List.mem_of_getElem? (i := 880) (by decide +kernel), List.mem_of_getElem? (i := 881) (by decide +kernel)⟩
theorem lw_p45 : lw_okq (⟨"LentSoundsModel", "firstTick", "(I)I"⟩, 25) := ⟨⟨by decide +kernel, by decide +kernel⟩, List.mem_of_getElem? (i := 605) (by decide +kernel), List.mem_of_getElem? (i := 896) (by decide +kernel), List.mem_of_getElem? (i := 897) (by decide +kernel)⟩
theorem lw_p46 : lw_okq (⟨"LentSoundsModel", "greatestEnd", "(I)I"⟩, 25) := ⟨⟨by decide +kernel, by decide +kernel⟩, List.mem_of_getElem? (i := 605) (by decide +kernel), List.mem_of_getElem? (i := 900) (by decide +kernel), List.mem_of_getElem? (i := 901) (by decide +kernel)⟩
theorem lw_p47 : lw_okq (⟨"LentSoundsModel", "missedOf", "(I)I"⟩, 25) := ⟨⟨by decide +kernel, by decide +kernel⟩, List.mem_of_getElem? (i := 605) (by decide +kernel), List.mem_of_getElem? (i := 904) (by decide +kernel), List.mem_of_getElem? (i := 905) (by decide +kernel)⟩
def lw_privs_3 : List (MethodName × Nat) := [(⟨"LentSoundsModel", "putsIn", "(IIII)V"⟩, 25), (⟨"LentSoundsModel", "isCue", "(I)Z"⟩, 25), (⟨"LentSoundsModel", "takesOut", "(I)V"⟩, 25), (⟨"LentSoundsModel", "canShift", "(II)Z"⟩, 25), (⟨"LentSoundsModel", "cuesOf", "(I)I"⟩, 25), (⟨"LentSoundsModel", "takesOutScene", "(I)V"⟩, 25), (⟨"LentSoundsModel", "plays", "()V"⟩, 25), (⟨"LentSoundsModel", "comesTo", "(I)V"⟩, 25), (⟨"LentSoundsModel", "handFor", "(II)I"⟩, 25), (⟨"LentSoundsModel", "isThere", "(I)Z"⟩, 25), (⟨"LentSoundsModel", "cuesOfSound", "(IZ)I"⟩, 25), (⟨"LentSoundsModel", "tries", "()V"⟩, 25), (⟨"LentSoundsModel", "lacks", "(I)I"⟩, 25), (⟨"LentSoundsModel", "firstTick", "(I)I"⟩, 25), (⟨"LentSoundsModel", "greatestEnd", "(I)I"⟩, 25), (⟨"LentSoundsModel", "missedOf", "(I)I"⟩, 25)]
theorem lw_r3 : ∀ q ∈ lw_privs_3, lw_okq q := List.forall_mem_cons.mpr ⟨lw_p32, List.forall_mem_cons.mpr ⟨lw_p33, List.forall_mem_cons.mpr ⟨lw_p34, List.forall_mem_cons.mpr ⟨lw_p35, List.forall_mem_cons.mpr ⟨lw_p36, List.forall_mem_cons.mpr ⟨lw_p37, List.forall_mem_cons.mpr ⟨lw_p38, List.forall_mem_cons.mpr ⟨lw_p39, List.forall_mem_cons.mpr ⟨lw_p40, List.forall_mem_cons.mpr ⟨lw_p41, List.forall_mem_cons.mpr ⟨lw_p42, List.forall_mem_cons.mpr ⟨lw_p43, List.forall_mem_cons.mpr ⟨lw_p44, List.forall_mem_cons.mpr ⟨lw_p45, List.forall_mem_cons.mpr ⟨lw_p46, List.forall_mem_cons.mpr ⟨lw_p47, fun _ h => absurd h List.not_mem_nil⟩⟩⟩⟩⟩⟩⟩⟩⟩⟩⟩⟩⟩⟩⟩⟩
theorem lw_p48 : lw_okq (⟨"LentSoundsModel", "lentTo", "(I)I"⟩, 25) := ⟨⟨by decide +kernel, by decide +kernel⟩, List.mem_of_getElem? (i := 605) (by decide +kernel), List.mem_of_getElem? (i := 908) (by decide +kernel), List.mem_of_getElem? (i := 909) (by decide +kernel)⟩
theorem lw_p49 : lw_okq (⟨"LentSoundsModel", "wouldMiss", "(Z)I"⟩, 25) := ⟨⟨by decide +kernel, by decide +kernel⟩, List.mem_of_getElem? (i := 605) (by decide +kernel), List.mem_of_getElem? (i := 928) (by decide +kernel), List.mem_of_getElem? (i := 929) (by decide +kernel)⟩
theorem lw_p50 : lw_okq (⟨"LentSoundsModel", "allCharges", "()I"⟩, 25) := ⟨⟨by decide +kernel, by decide +kernel⟩, List.mem_of_getElem? (i := 605) (by decide +kernel), List.mem_of_getElem? (i := 932) (by decide +kernel), List.mem_of_getElem? (i := 933) (by decide +kernel)⟩
def lw_privs_4 : List (MethodName × Nat) := [(⟨"LentSoundsModel", "lentTo", "(I)I"⟩, 25), (⟨"LentSoundsModel", "wouldMiss", "(Z)I"⟩, 25), (⟨"LentSoundsModel", "allCharges", "()I"⟩, 25)]
theorem lw_r4 : ∀ q ∈ lw_privs_4, lw_okq q := List.forall_mem_cons.mpr ⟨lw_p48, List.forall_mem_cons.mpr ⟨lw_p49, List.forall_mem_cons.mpr ⟨lw_p50, fun _ h => absurd h List.not_mem_nil⟩⟩⟩
def lw_privs : List (MethodName × Nat) := lw_privs_1 ++ (lw_privs_2 ++ (lw_privs_3 ++ (lw_privs_4)))
def lw_tbl : List Cond := k2_sels lw_privs ++ tables_1
theorem lw_privs_ok : ∀ q ∈ lw_privs, lw_okq q := by
  show ∀ q ∈ lw_privs_1 ++ (lw_privs_2 ++ (lw_privs_3 ++ (lw_privs_4))), lw_okq q
  exact List.forall_mem_append.mpr ⟨lw_r1, List.forall_mem_append.mpr ⟨lw_r2, List.forall_mem_append.mpr ⟨lw_r3, lw_r4⟩⟩⟩
/-! ===== BEGIN words of one list among another's, by their places ===== -/
theorem goodIn_r {big : List Cond} (ws : List Cond) (ps : List Nat) (hp : ws = ps.filterMap (fun i => big[i]?)) (h : ws.all goodWord = true) : GoodIn big ws := by
  intro w hw
  have h1 := List.all_eq_true.mp h w hw
  rw [hp] at hw
  obtain ⟨i, -, hi⟩ := List.mem_filterMap.mp hw
  have hm : w ∈ big := by first | exact List.mem_of_getElem? hi | exact List.getElem?_mem hi
  exact ⟨hm, good_of_word h1⟩
theorem goodIn_app {big a b : List Cond} (ha : GoodIn big a) (hb : GoodIn big b) : GoodIn big (a ++ b) := fun w h => (List.mem_append.mp h).elim (ha w) (hb w)
theorem goodIn_ca {big a b : List Cond} {c : Cond} (ha : GoodIn big (c :: a)) (hb : GoodIn big b) : GoodIn big (c :: (a ++ b)) := fun w h => (List.mem_cons.mp h).elim (fun e => ha w (List.mem_cons.mpr (Or.inl e))) (fun h => (List.mem_append.mp h).elim (fun h => ha w (List.mem_cons.mpr (Or.inr h))) (hb w))
theorem goodIn_sub {big ws : List Cond} (hm : ∀ w ∈ ws, w ∈ big) (h : ws.all goodWord = true) : GoodIn big ws := fun w hw => ⟨hm w hw, good_of_word (List.all_eq_true.mp h w hw)⟩
/-! ===== END ===== -/

/-! ===== BEGIN printed: names, fields, word lists, decode rows ===== -/
def RX0 : String := "LentSounds$CueList"
def TX0 : u_T := fun k => match k with
  | 0 => ("LentSounds$CueList", "capacity", "I", true)
  | 1 => ("LentSounds$CueList", "ticks", "LLentSounds$Row;", true)
  | 2 => ("LentSounds$CueList", "scenes", "LLentSounds$Row;", true)
  | 3 => ("LentSounds$CueList", "sounds", "LLentSounds$Row;", true)
  | 4 => ("LentSounds$CueList", "lengths", "LLentSounds$Row;", true)
  | _ => ("LentSounds$CueList", "size", "I", false)
def tyX0 : Nat → FieldType := fun k => match k with
  | 0 => .int
  | 1 => .object "LentSounds$Row"
  | 2 => .object "LentSounds$Row"
  | 3 => .object "LentSounds$Row"
  | 4 => .object "LentSounds$Row"
  | _ => .int
abbrev wsX00 : List Cond := u_ws RX0 TX0 6
theorem nmX0 : ∀ a, a < 6 → ∀ b, b < 6 → a ≠ b → (TX0 a).2.1 ≠ (TX0 b).2.1 := by decide +kernel
theorem tyX0_ok : ∀ k, k < 6 → parseFieldDescriptor (TX0 k).2.2.1 = some (tyX0 k) := by decide +kernel
abbrev cX0_init : ByteArray := prog_2_method_1_code
def yX0_init : MethodName := ⟨RX0, "<init>", "(I)V"⟩
abbrev cX0_copyFrom : ByteArray := prog_2_method_2_code
def yX0_copyFrom : MethodName := ⟨RX0, "copyFrom", "(LLentSounds$CueList;)V"⟩
abbrev cX0_endOf : ByteArray := prog_2_method_3_code
def yX0_endOf : MethodName := ⟨RX0, "endOf", "(I)I"⟩
abbrev cX0_has : ByteArray := prog_2_method_4_code
def yX0_has : MethodName := ⟨RX0, "has", "(III)Z"⟩
abbrev cX0_append : ByteArray := prog_2_method_5_code
def yX0_append : MethodName := ⟨RX0, "append", "(IIII)V"⟩
abbrev cX0_putInOrder : ByteArray := prog_2_method_6_code
def yX0_putInOrder : MethodName := ⟨RX0, "putInOrder", "()V"⟩
abbrev cX0_removeAt : ByteArray := prog_2_method_7_code
def yX0_removeAt : MethodName := ⟨RX0, "removeAt", "(I)V"⟩
abbrev cX0_removeScene : ByteArray := prog_2_method_8_code
def yX0_removeScene : MethodName := ⟨RX0, "removeScene", "(I)V"⟩
abbrev cX0_canMove : ByteArray := prog_2_method_9_code
def yX0_canMove : MethodName := ⟨RX0, "canMove", "(II)Z"⟩
abbrev cX0_moveScene : ByteArray := prog_2_method_10_code
def yX0_moveScene : MethodName := ⟨RX0, "moveScene", "(II)V"⟩
abbrev cX0_sizeOfScene : ByteArray := prog_2_method_11_code
def yX0_sizeOfScene : MethodName := ⟨RX0, "sizeOfScene", "(I)I"⟩
abbrev cX0_sizeOfSound : ByteArray := prog_2_method_12_code
def yX0_sizeOfSound : MethodName := ⟨RX0, "sizeOfSound", "(I)I"⟩
abbrev cX0_firstTick : ByteArray := prog_2_method_13_code
def yX0_firstTick : MethodName := ⟨RX0, "firstTick", "(I)I"⟩
abbrev cX0_greatestEnd : ByteArray := prog_2_method_14_code
def yX0_greatestEnd : MethodName := ⟨RX0, "greatestEnd", "(I)I"⟩
abbrev cX0_timesIn : ByteArray := prog_2_method_15_code
def yX0_timesIn : MethodName := ⟨RX0, "timesIn", "(LLentSounds$Row;I)I"⟩
abbrev cX0_moveToItsPlace : ByteArray := prog_2_method_16_code
def yX0_moveToItsPlace : MethodName := ⟨RX0, "moveToItsPlace", "(I)V"⟩
abbrev cX0_order : ByteArray := prog_2_method_17_code
def yX0_order : MethodName := ⟨RX0, "order", "(I)I"⟩
abbrev cX0_swap : ByteArray := prog_2_method_18_code
def yX0_swap : MethodName := ⟨RX0, "swap", "(II)V"⟩
def RX1 : String := "LentSounds$CueReader"
def TX1 : u_T := fun k => match k with
  | 0 => ("LentSounds$CueReader", "drafts", "LLentSounds$CueList;", true)
  | 1 => ("LentSounds$CueReader", "position", "I", false)
  | 2 => ("LentSounds$CueReader", "faulty", "Z", false)
  | _ => ("LentSounds$CueReader", "foundTwice", "Z", false)
def tyX1 : Nat → FieldType := fun k => match k with
  | 0 => .object "LentSounds$CueList"
  | 1 => .int
  | 2 => .boolean
  | _ => .boolean
abbrev wsX10 : List Cond := u_ws RX1 TX1 4
theorem nmX1 : ∀ a, a < 4 → ∀ b, b < 4 → a ≠ b → (TX1 a).2.1 ≠ (TX1 b).2.1 := by decide +kernel
theorem tyX1_ok : ∀ k, k < 4 → parseFieldDescriptor (TX1 k).2.2.1 = some (tyX1 k) := by decide +kernel
abbrev cX1_init : ByteArray := prog_3_method_1_code
def yX1_init : MethodName := ⟨RX1, "<init>", "()V"⟩
abbrev cX1_readBehind : ByteArray := prog_3_method_2_code
def yX1_readBehind : MethodName := ⟨RX1, "readBehind", "(LLentSounds$CueList;LLentSounds$Text;)V"⟩
abbrev cX1_readCue : ByteArray := prog_3_method_3_code
def yX1_readCue : MethodName := ⟨RX1, "readCue", "(LLentSounds$Text;)V"⟩
abbrev cX1_addDraft : ByteArray := prog_3_method_4_code
def yX1_addDraft : MethodName := ⟨RX1, "addDraft", "(IIII)V"⟩
abbrev cX1_readSign : ByteArray := prog_3_method_5_code
def yX1_readSign : MethodName := ⟨RX1, "readSign", "(LLentSounds$Text;C)V"⟩
abbrev cX1_readNumber : ByteArray := prog_3_method_6_code
def yX1_readNumber : MethodName := ⟨RX1, "readNumber", "(LLentSounds$Text;II)I"⟩
abbrev cX1_digitAt : ByteArray := prog_3_method_7_code
def yX1_digitAt : MethodName := ⟨RX1, "digitAt", "(LLentSounds$Text;I)I"⟩
def RX2 : String := "LentSounds$History"
def TX2 : u_T := fun k => match k with
  | 0 => ("LentSounds$History", "states", "[LLentSounds$State;", true)
  | _ => ("LentSounds$History", "size", "I", false)
def tyX2 : Nat → FieldType := fun k => match k with
  | 0 => .array (.object "LentSounds$State")
  | _ => .int
abbrev wsX20 : List Cond := u_ws RX2 TX2 2
theorem nmX2 : ∀ a, a < 2 → ∀ b, b < 2 → a ≠ b → (TX2 a).2.1 ≠ (TX2 b).2.1 := by decide +kernel
theorem tyX2_ok : ∀ k, k < 2 → parseFieldDescriptor (TX2 k).2.2.1 = some (tyX2 k) := by decide +kernel
abbrev cX2_init : ByteArray := prog_4_method_1_code
def yX2_init : MethodName := ⟨RX2, "<init>", "()V"⟩
abbrev cX2_record : ByteArray := prog_4_method_2_code
def yX2_record : MethodName := ⟨RX2, "record", "(LLentSounds$State;)V"⟩
abbrev cX2_moveLatestTo : ByteArray := prog_4_method_3_code
def yX2_moveLatestTo : MethodName := ⟨RX2, "moveLatestTo", "(LLentSounds$State;)V"⟩
abbrev cX2_at : ByteArray := prog_4_method_4_code
def yX2_at : MethodName := ⟨RX2, "at", "(I)LLentSounds$State;"⟩
abbrev cX2_dropOldest : ByteArray := prog_4_method_5_code
def yX2_dropOldest : MethodName := ⟨RX2, "dropOldest", "()V"⟩
def RX3 : String := "LentSounds$Rehearsal"
def TX3 : u_T := fun k => match k with
  | 0 => ("LentSounds$Rehearsal", "charges", "LLentSounds$Row;", true)
  | 1 => ("LentSounds$Rehearsal", "latestScenes", "LLentSounds$Row;", true)
  | 2 => ("LentSounds$Rehearsal", "latestEnds", "LLentSounds$Row;", true)
  | 3 => ("LentSounds$Rehearsal", "handShelves", "LLentSounds$Row;", true)
  | 4 => ("LentSounds$Rehearsal", "freeFrom", "LLentSounds$Row;", true)
  | 5 => ("LentSounds$Rehearsal", "handPlays", "LLentSounds$Row;", true)
  | 6 => ("LentSounds$Rehearsal", "handWays", "LLentSounds$Row;", true)
  | 7 => ("LentSounds$Rehearsal", "players", "LLentSounds$Row;", true)
  | 8 => ("LentSounds$Rehearsal", "reasons", "LLentSounds$Row;", true)
  | 9 => ("LentSounds$Rehearsal", "ways", "LLentSounds$Row;", true)
  | 10 => ("LentSounds$Rehearsal", "sceneMisses", "LLentSounds$Row;", true)
  | 11 => ("LentSounds$Rehearsal", "sceneLoans", "LLentSounds$Row;", true)
  | 12 => ("LentSounds$Rehearsal", "hands", "I", false)
  | 13 => ("LentSounds$Rehearsal", "missedCues", "I", false)
  | _ => ("LentSounds$Rehearsal", "missedByEar", "I", false)
def tyX3 : Nat → FieldType := fun k => match k with
  | 0 => .object "LentSounds$Row"
  | 1 => .object "LentSounds$Row"
  | 2 => .object "LentSounds$Row"
  | 3 => .object "LentSounds$Row"
  | 4 => .object "LentSounds$Row"
  | 5 => .object "LentSounds$Row"
  | 6 => .object "LentSounds$Row"
  | 7 => .object "LentSounds$Row"
  | 8 => .object "LentSounds$Row"
  | 9 => .object "LentSounds$Row"
  | 10 => .object "LentSounds$Row"
  | 11 => .object "LentSounds$Row"
  | 12 => .int
  | 13 => .int
  | _ => .int
abbrev wsX30 : List Cond := u_ws RX3 TX3 15
theorem nmX3 : ∀ a, a < 15 → ∀ b, b < 15 → a ≠ b → (TX3 a).2.1 ≠ (TX3 b).2.1 := by decide +kernel
theorem tyX3_ok : ∀ k, k < 15 → parseFieldDescriptor (TX3 k).2.2.1 = some (tyX3 k) := by decide +kernel
abbrev cX3_init : ByteArray := prog_5_method_1_code
def yX3_init : MethodName := ⟨RX3, "<init>", "()V"⟩
abbrev cX3_begin : ByteArray := prog_5_method_2_code
def yX3_begin : MethodName := ⟨RX3, "begin", "(LLentSounds$State;I)V"⟩
abbrev cX3_playTake : ByteArray := prog_5_method_3_code
def yX3_playTake : MethodName := ⟨RX3, "playTake", "(LLentSounds$State;)V"⟩
abbrev cX3_playsOfSound : ByteArray := prog_5_method_4_code
def yX3_playsOfSound : MethodName := ⟨RX3, "playsOfSound", "(ILLentSounds$CueList;)I"⟩
abbrev cX3_missedCue : ByteArray := prog_5_method_5_code
def yX3_missedCue : MethodName := ⟨RX3, "missedCue", "(II)I"⟩
abbrev cX3_doCue : ByteArray := prog_5_method_6_code
def yX3_doCue : MethodName := ⟨RX3, "doCue", "(ILLentSounds$State;)V"⟩
abbrev cX3_reasonToMiss : ByteArray := prog_5_method_7_code
def yX3_reasonToMiss : MethodName := ⟨RX3, "reasonToMiss", "(ILLentSounds$State;I)I"⟩
abbrev cX3_isLent : ByteArray := prog_5_method_8_code
def yX3_isLent : MethodName := ⟨RX3, "isLent", "(II)Z"⟩
abbrev cX3_nearestHand : ByteArray := prog_5_method_9_code
def yX3_nearestHand : MethodName := ⟨RX3, "nearestHand", "(II)I"⟩
abbrev cX3_wayTo : ByteArray := prog_5_method_10_code
def yX3_wayTo : MethodName := ⟨RX3, "wayTo", "(II)I"⟩
abbrev cX3_play : ByteArray := prog_5_method_11_code
def yX3_play : MethodName := ⟨RX3, "play", "(ILLentSounds$CueList;II)V"⟩
abbrev cX3_miss : ByteArray := prog_5_method_12_code
def yX3_miss : MethodName := ⟨RX3, "miss", "(ILLentSounds$State;)V"⟩
def RX4 : String := "LentSounds$Row"
def TX4 : u_T := fun k => match k with
  | _ => ("LentSounds$Row", "cells", "[I", true)
def tyX4 : Nat → FieldType := fun k => match k with
  | _ => .array .int
abbrev wsX40 : List Cond := u_ws RX4 TX4 1
theorem nmX4 : ∀ a, a < 1 → ∀ b, b < 1 → a ≠ b → (TX4 a).2.1 ≠ (TX4 b).2.1 := by decide +kernel
theorem tyX4_ok : ∀ k, k < 1 → parseFieldDescriptor (TX4 k).2.2.1 = some (tyX4 k) := by decide +kernel
abbrev cX4_init : ByteArray := prog_6_method_1_code
def yX4_init : MethodName := ⟨RX4, "<init>", "(I)V"⟩
abbrev cX4_get : ByteArray := prog_6_method_2_code
def yX4_get : MethodName := ⟨RX4, "get", "(I)I"⟩
abbrev cX4_put : ByteArray := prog_6_method_3_code
def yX4_put : MethodName := ⟨RX4, "put", "(II)V"⟩
abbrev cX4_increase : ByteArray := prog_6_method_4_code
def yX4_increase : MethodName := ⟨RX4, "increase", "(II)V"⟩
abbrev cX4_swap : ByteArray := prog_6_method_5_code
def yX4_swap : MethodName := ⟨RX4, "swap", "(II)V"⟩
abbrev cX4_fill : ByteArray := prog_6_method_6_code
def yX4_fill : MethodName := ⟨RX4, "fill", "(I)V"⟩
abbrev cX4_sum : ByteArray := prog_6_method_7_code
def yX4_sum : MethodName := ⟨RX4, "sum", "()I"⟩
abbrev cX4_copyFrom : ByteArray := prog_6_method_8_code
def yX4_copyFrom : MethodName := ⟨RX4, "copyFrom", "(LLentSounds$Row;)V"⟩
def RX5 : String := "LentSounds$State"
def TX5 : u_T := fun k => match k with
  | 0 => ("LentSounds$State", "soundShelves", "LLentSounds$Row;", true)
  | 1 => ("LentSounds$State", "charges", "LLentSounds$Row;", true)
  | 2 => ("LentSounds$State", "loudness", "LLentSounds$Row;", true)
  | 3 => ("LentSounds$State", "handShelves", "LLentSounds$Row;", true)
  | 4 => ("LentSounds$State", "cues", "LLentSounds$CueList;", true)
  | 5 => ("LentSounds$State", "hands", "I", false)
  | 6 => ("LentSounds$State", "carrying", "I", false)
  | 7 => ("LentSounds$State", "takes", "I", false)
  | 8 => ("LentSounds$State", "playedCues", "I", false)
  | 9 => ("LentSounds$State", "missedCues", "I", false)
  | _ => ("LentSounds$State", "missedByEar", "I", false)
def tyX5 : Nat → FieldType := fun k => match k with
  | 0 => .object "LentSounds$Row"
  | 1 => .object "LentSounds$Row"
  | 2 => .object "LentSounds$Row"
  | 3 => .object "LentSounds$Row"
  | 4 => .object "LentSounds$CueList"
  | 5 => .int
  | 6 => .int
  | 7 => .int
  | 8 => .int
  | 9 => .int
  | _ => .int
abbrev wsX50 : List Cond := u_ws RX5 TX5 11
theorem nmX5 : ∀ a, a < 11 → ∀ b, b < 11 → a ≠ b → (TX5 a).2.1 ≠ (TX5 b).2.1 := by decide +kernel
theorem tyX5_ok : ∀ k, k < 11 → parseFieldDescriptor (TX5 k).2.2.1 = some (tyX5 k) := by decide +kernel
abbrev cX5_init : ByteArray := prog_7_method_1_code
def yX5_init : MethodName := ⟨RX5, "<init>", "()V"⟩
abbrev cX5_copyFrom : ByteArray := prog_7_method_2_code
def yX5_copyFrom : MethodName := ⟨RX5, "copyFrom", "(LLentSounds$State;)V"⟩
abbrev cX5_soundRow : ByteArray := prog_7_method_3_code
def yX5_soundRow : MethodName := ⟨RX5, "soundRow", "(I)LLentSounds$Row;"⟩
def RX6 : String := "LentSounds$Text"
def TX6 : u_T := fun k => match k with
  | 0 => ("LentSounds$Text", "characters", "LLentSounds$Row;", true)
  | _ => ("LentSounds$Text", "length", "I", false)
def tyX6 : Nat → FieldType := fun k => match k with
  | 0 => .object "LentSounds$Row"
  | _ => .int
abbrev wsX60 : List Cond := u_ws RX6 TX6 2
theorem nmX6 : ∀ a, a < 2 → ∀ b, b < 2 → a ≠ b → (TX6 a).2.1 ≠ (TX6 b).2.1 := by decide +kernel
theorem tyX6_ok : ∀ k, k < 2 → parseFieldDescriptor (TX6 k).2.2.1 = some (tyX6 k) := by decide +kernel
abbrev cX6_init : ByteArray := prog_8_method_1_code
def yX6_init : MethodName := ⟨RX6, "<init>", "()V"⟩
abbrev cX6_append : ByteArray := prog_8_method_2_code
def yX6_append : MethodName := ⟨RX6, "append", "(C)V"⟩
abbrev cX6_at : ByteArray := prog_8_method_3_code
def yX6_at : MethodName := ⟨RX6, "at", "(I)I"⟩
def RX7 : String := "LentSounds"
def TX7 : u_T := fun k => match k with
  | 0 => ("LentSounds", "now", "LLentSounds$State;", true)
  | 1 => ("LentSounds", "snapshot", "LLentSounds$State;", true)
  | 2 => ("LentSounds", "history", "LLentSounds$History;", true)
  | 3 => ("LentSounds", "text", "LLentSounds$Text;", true)
  | 4 => ("LentSounds", "reader", "LLentSounds$CueReader;", true)
  | 5 => ("LentSounds", "rehearsal", "LLentSounds$Rehearsal;", true)
  | _ => ("LentSounds", "hasSnapshot", "Z", false)
def tyX7 : Nat → FieldType := fun k => match k with
  | 0 => .object "LentSounds$State"
  | 1 => .object "LentSounds$State"
  | 2 => .object "LentSounds$History"
  | 3 => .object "LentSounds$Text"
  | 4 => .object "LentSounds$CueReader"
  | 5 => .object "LentSounds$Rehearsal"
  | _ => .boolean
abbrev wsX70 : List Cond := u_ws RX7 TX7 7
theorem nmX7 : ∀ a, a < 7 → ∀ b, b < 7 → a ≠ b → (TX7 a).2.1 ≠ (TX7 b).2.1 := by decide +kernel
theorem tyX7_ok : ∀ k, k < 7 → parseFieldDescriptor (TX7 k).2.2.1 = some (tyX7 k) := by decide +kernel
abbrev cX7_init : ByteArray := prog_1_method_1_code
def yX7_init : MethodName := ⟨RX7, "<init>", "()V"⟩
abbrev cX7_setSound : ByteArray := prog_1_method_2_code
def yX7_setSound : MethodName := ⟨RX7, "setSound", "(III)I"⟩
abbrev cX7_setHands : ByteArray := prog_1_method_3_code
def yX7_setHands : MethodName := ⟨RX7, "setHands", "(I)I"⟩
abbrev cX7_send : ByteArray := prog_1_method_4_code
def yX7_send : MethodName := ⟨RX7, "send", "(II)I"⟩
abbrev cX7_setCarrying : ByteArray := prog_1_method_5_code
def yX7_setCarrying : MethodName := ⟨RX7, "setCarrying", "(I)I"⟩
abbrev cX7_readCues : ByteArray := prog_1_method_6_code
def yX7_readCues : MethodName := ⟨RX7, "readCues", "()I"⟩
abbrev cX7_removeCue : ByteArray := prog_1_method_7_code
def yX7_removeCue : MethodName := ⟨RX7, "removeCue", "(I)I"⟩
abbrev cX7_shift : ByteArray := prog_1_method_8_code
def yX7_shift : MethodName := ⟨RX7, "shift", "(II)I"⟩
abbrev cX7_cutScene : ByteArray := prog_1_method_9_code
def yX7_cutScene : MethodName := ⟨RX7, "cutScene", "(I)I"⟩
abbrev cX7_take : ByteArray := prog_1_method_10_code
def yX7_take : MethodName := ⟨RX7, "take", "()I"⟩
abbrev cX7_type : ByteArray := prog_1_method_11_code
def yX7_type : MethodName := ⟨RX7, "type", "(C)I"⟩
abbrev cX7_clearText : ByteArray := prog_1_method_12_code
def yX7_clearText : MethodName := ⟨RX7, "clearText", "()I"⟩
abbrev cX7_undo : ByteArray := prog_1_method_13_code
def yX7_undo : MethodName := ⟨RX7, "undo", "()I"⟩
abbrev cX7_keep : ByteArray := prog_1_method_14_code
def yX7_keep : MethodName := ⟨RX7, "keep", "()I"⟩
abbrev cX7_restore : ByteArray := prog_1_method_15_code
def yX7_restore : MethodName := ⟨RX7, "restore", "()I"⟩
abbrev cX7_sound : ByteArray := prog_1_method_16_code
def yX7_sound : MethodName := ⟨RX7, "sound", "(II)I"⟩
abbrev cX7_cue : ByteArray := prog_1_method_17_code
def yX7_cue : MethodName := ⟨RX7, "cue", "(II)I"⟩
abbrev cX7_hand : ByteArray := prog_1_method_18_code
def yX7_hand : MethodName := ⟨RX7, "hand", "(II)I"⟩
abbrev cX7_scene : ByteArray := prog_1_method_19_code
def yX7_scene : MethodName := ⟨RX7, "scene", "(II)I"⟩
abbrev cX7_missed : ByteArray := prog_1_method_20_code
def yX7_missed : MethodName := ⟨RX7, "missed", "(I)I"⟩
abbrev cX7_ifHands : ByteArray := prog_1_method_21_code
def yX7_ifHands : MethodName := ⟨RX7, "ifHands", "(I)I"⟩
abbrev cX7_cleanTakes : ByteArray := prog_1_method_22_code
def yX7_cleanTakes : MethodName := ⟨RX7, "cleanTakes", "()I"⟩
abbrev cX7_count : ByteArray := prog_1_method_23_code
def yX7_count : MethodName := ⟨RX7, "count", "(I)I"⟩
abbrev cX7_rehearse : ByteArray := prog_1_method_24_code
def yX7_rehearse : MethodName := ⟨RX7, "rehearse", "(I)V"⟩
abbrev cX7_isBelow : ByteArray := prog_1_method_25_code
def yX7_isBelow : MethodName := ⟨RX7, "isBelow", "(II)Z"⟩
abbrev cX7_isWithin : ByteArray := prog_1_method_26_code
def yX7_isWithin : MethodName := ⟨RX7, "isWithin", "(III)Z"⟩
abbrev cX7_isSoundValue : ByteArray := prog_1_method_27_code
def yX7_isSoundValue : MethodName := ⟨RX7, "isSoundValue", "(II)Z"⟩
def RX8 : String := "LentSoundsModel"
def TX8 : u_T := fun k => match k with
  | 0 => ("LentSoundsModel", "all", "[I", true)
  | 1 => ("LentSoundsModel", "kept", "[I", true)
  | 2 => ("LentSoundsModel", "tried", "[I", true)
  | 3 => ("LentSoundsModel", "history", "[I", true)
  | 4 => ("LentSoundsModel", "historyLong", "I", false)
  | 5 => ("LentSoundsModel", "snapshot", "[I", true)
  | 6 => ("LentSoundsModel", "isTaken", "I", false)
  | 7 => ("LentSoundsModel", "handOf", "[I", true)
  | 8 => ("LentSoundsModel", "reasonOf", "[I", true)
  | 9 => ("LentSoundsModel", "wayOf", "[I", true)
  | 10 => ("LentSoundsModel", "isLent", "[I", true)
  | 11 => ("LentSoundsModel", "freeFrom", "[I", true)
  | 12 => ("LentSoundsModel", "playedBy", "[I", true)
  | 13 => ("LentSoundsModel", "walkedBy", "[I", true)
  | 14 => ("LentSoundsModel", "usedIn", "[I", true)
  | 15 => ("LentSoundsModel", "usedTill", "[I", true)
  | 16 => ("LentSoundsModel", "misses", "I", false)
  | 17 => ("LentSoundsModel", "earMisses", "I", false)
  | 18 => ("LentSoundsModel", "then", "[I", true)
  | 19 => ("LentSoundsModel", "text", "[I", true)
  | 20 => ("LentSoundsModel", "textLong", "I", false)
  | 21 => ("LentSoundsModel", "spot", "I", false)
  | 22 => ("LentSoundsModel", "number", "I", false)
  | 23 => ("LentSoundsModel", "read", "[I", true)
  | _ => ("LentSoundsModel", "readMany", "I", false)
def tyX8 : Nat → FieldType := fun k => match k with
  | 0 => .array .int
  | 1 => .array .int
  | 2 => .array .int
  | 3 => .array .int
  | 4 => .int
  | 5 => .array .int
  | 6 => .int
  | 7 => .array .int
  | 8 => .array .int
  | 9 => .array .int
  | 10 => .array .int
  | 11 => .array .int
  | 12 => .array .int
  | 13 => .array .int
  | 14 => .array .int
  | 15 => .array .int
  | 16 => .int
  | 17 => .int
  | 18 => .array .int
  | 19 => .array .int
  | 20 => .int
  | 21 => .int
  | 22 => .int
  | 23 => .array .int
  | _ => .int
abbrev wsX80 : List Cond := u_ws RX8 TX8 25
theorem nmX8 : ∀ a, a < 25 → ∀ b, b < 25 → a ≠ b → (TX8 a).2.1 ≠ (TX8 b).2.1 := by decide +kernel
theorem tyX8_ok : ∀ k, k < 25 → parseFieldDescriptor (TX8 k).2.2.1 = some (tyX8 k) := by decide +kernel
abbrev cX8_init : ByteArray := prog_10_method_1_code
def yX8_init : MethodName := ⟨RX8, "<init>", "()V"⟩
abbrev cX8_in : ByteArray := prog_10_method_3_code
def yX8_in : MethodName := ⟨RX8, "in", "(JJJ)Z"⟩
abbrev cX8_copy : ByteArray := prog_10_method_4_code
def yX8_copy : MethodName := ⟨RX8, "copy", "([I[I)V"⟩
abbrev cX8_remember : ByteArray := prog_10_method_5_code
def yX8_remember : MethodName := ⟨RX8, "remember", "()V"⟩
abbrev cX8_acted : ByteArray := prog_10_method_6_code
def yX8_acted : MethodName := ⟨RX8, "acted", "(I)I"⟩
abbrev cX8_of : ByteArray := prog_10_method_7_code
def yX8_of : MethodName := ⟨RX8, "of", "(II)I"⟩
abbrev cX8_isCue : ByteArray := prog_10_method_8_code
def yX8_isCue : MethodName := ⟨RX8, "isCue", "(I)Z"⟩
abbrev cX8_isScene : ByteArray := prog_10_method_9_code
def yX8_isScene : MethodName := ⟨RX8, "isScene", "(I)Z"⟩
abbrev cX8_isSound : ByteArray := prog_10_method_10_code
def yX8_isSound : MethodName := ⟨RX8, "isSound", "(I)Z"⟩
abbrev cX8_rankOf : ByteArray := prog_10_method_11_code
def yX8_rankOf : MethodName := ⟨RX8, "rankOf", "(III)I"⟩
abbrev cX8_rankAt : ByteArray := prog_10_method_12_code
def yX8_rankAt : MethodName := ⟨RX8, "rankAt", "(I)I"⟩
abbrev cX8_takesOut : ByteArray := prog_10_method_13_code
def yX8_takesOut : MethodName := ⟨RX8, "takesOut", "(I)V"⟩
abbrev cX8_putsIn : ByteArray := prog_10_method_14_code
def yX8_putsIn : MethodName := ⟨RX8, "putsIn", "(IIII)V"⟩
abbrev cX8_cuesOf : ByteArray := prog_10_method_15_code
def yX8_cuesOf : MethodName := ⟨RX8, "cuesOf", "(I)I"⟩
abbrev cX8_apart : ByteArray := prog_10_method_16_code
def yX8_apart : MethodName := ⟨RX8, "apart", "(II)I"⟩
abbrev cX8_handFor : ByteArray := prog_10_method_17_code
def yX8_handFor : MethodName := ⟨RX8, "handFor", "(II)I"⟩
abbrev cX8_isThere : ByteArray := prog_10_method_18_code
def yX8_isThere : MethodName := ⟨RX8, "isThere", "(I)Z"⟩
abbrev cX8_comesTo : ByteArray := prog_10_method_19_code
def yX8_comesTo : MethodName := ⟨RX8, "comesTo", "(I)V"⟩
abbrev cX8_plays : ByteArray := prog_10_method_20_code
def yX8_plays : MethodName := ⟨RX8, "plays", "()V"⟩
abbrev cX8_tries : ByteArray := prog_10_method_21_code
def yX8_tries : MethodName := ⟨RX8, "tries", "()V"⟩
abbrev cX8_isValue : ByteArray := prog_10_method_22_code
def yX8_isValue : MethodName := ⟨RX8, "isValue", "(II)Z"⟩
abbrev cX8_sets : ByteArray := prog_10_method_23_code
def yX8_sets : MethodName := ⟨RX8, "sets", "(II)I"⟩
abbrev cX8_setSound : ByteArray := prog_10_method_24_code
def yX8_setSound : MethodName := ⟨RX8, "setSound", "(III)I"⟩
abbrev cX8_becomeHands : ByteArray := prog_10_method_25_code
def yX8_becomeHands : MethodName := ⟨RX8, "becomeHands", "(I)V"⟩
abbrev cX8_setHands : ByteArray := prog_10_method_26_code
def yX8_setHands : MethodName := ⟨RX8, "setHands", "(I)I"⟩
abbrev cX8_isHand : ByteArray := prog_10_method_27_code
def yX8_isHand : MethodName := ⟨RX8, "isHand", "(I)Z"⟩
abbrev cX8_send : ByteArray := prog_10_method_28_code
def yX8_send : MethodName := ⟨RX8, "send", "(II)I"⟩
abbrev cX8_setCarrying : ByteArray := prog_10_method_29_code
def yX8_setCarrying : MethodName := ⟨RX8, "setCarrying", "(I)I"⟩
abbrev cX8_type : ByteArray := prog_10_method_30_code
def yX8_type : MethodName := ⟨RX8, "type", "(C)I"⟩
abbrev cX8_clearText : ByteArray := prog_10_method_31_code
def yX8_clearText : MethodName := ⟨RX8, "clearText", "()I"⟩
abbrev cX8_isHere : ByteArray := prog_10_method_32_code
def yX8_isHere : MethodName := ⟨RX8, "isHere", "(II)Z"⟩
abbrev cX8_takes : ByteArray := prog_10_method_33_code
def yX8_takes : MethodName := ⟨RX8, "takes", "(I)Z"⟩
abbrev cX8_readsNumber : ByteArray := prog_10_method_34_code
def yX8_readsNumber : MethodName := ⟨RX8, "readsNumber", "(II)Z"⟩
abbrev cX8_readsCue : ByteArray := prog_10_method_35_code
def yX8_readsCue : MethodName := ⟨RX8, "readsCue", "()Z"⟩
abbrev cX8_fault : ByteArray := prog_10_method_36_code
def yX8_fault : MethodName := ⟨RX8, "fault", "()I"⟩
abbrev cX8_rankRead : ByteArray := prog_10_method_37_code
def yX8_rankRead : MethodName := ⟨RX8, "rankRead", "(I)I"⟩
abbrev cX8_isTwice : ByteArray := prog_10_method_38_code
def yX8_isTwice : MethodName := ⟨RX8, "isTwice", "(I)Z"⟩
abbrev cX8_readCues : ByteArray := prog_10_method_39_code
def yX8_readCues : MethodName := ⟨RX8, "readCues", "()I"⟩
abbrev cX8_removeCue : ByteArray := prog_10_method_40_code
def yX8_removeCue : MethodName := ⟨RX8, "removeCue", "(I)I"⟩
abbrev cX8_takesOutScene : ByteArray := prog_10_method_41_code
def yX8_takesOutScene : MethodName := ⟨RX8, "takesOutScene", "(I)V"⟩
abbrev cX8_canShift : ByteArray := prog_10_method_42_code
def yX8_canShift : MethodName := ⟨RX8, "canShift", "(II)Z"⟩
abbrev cX8_shift : ByteArray := prog_10_method_43_code
def yX8_shift : MethodName := ⟨RX8, "shift", "(II)I"⟩
abbrev cX8_cutScene : ByteArray := prog_10_method_44_code
def yX8_cutScene : MethodName := ⟨RX8, "cutScene", "(I)I"⟩
abbrev cX8_take : ByteArray := prog_10_method_45_code
def yX8_take : MethodName := ⟨RX8, "take", "()I"⟩
abbrev cX8_undo : ByteArray := prog_10_method_46_code
def yX8_undo : MethodName := ⟨RX8, "undo", "()I"⟩
abbrev cX8_keep : ByteArray := prog_10_method_47_code
def yX8_keep : MethodName := ⟨RX8, "keep", "()I"⟩
abbrev cX8_restore : ByteArray := prog_10_method_48_code
def yX8_restore : MethodName := ⟨RX8, "restore", "()I"⟩
abbrev cX8_cuesOfSound : ByteArray := prog_10_method_49_code
def yX8_cuesOfSound : MethodName := ⟨RX8, "cuesOfSound", "(IZ)I"⟩
abbrev cX8_lacks : ByteArray := prog_10_method_50_code
def yX8_lacks : MethodName := ⟨RX8, "lacks", "(I)I"⟩
abbrev cX8_sound : ByteArray := prog_10_method_51_code
def yX8_sound : MethodName := ⟨RX8, "sound", "(II)I"⟩
abbrev cX8_cue : ByteArray := prog_10_method_52_code
def yX8_cue : MethodName := ⟨RX8, "cue", "(II)I"⟩
abbrev cX8_hand : ByteArray := prog_10_method_53_code
def yX8_hand : MethodName := ⟨RX8, "hand", "(II)I"⟩
abbrev cX8_firstTick : ByteArray := prog_10_method_54_code
def yX8_firstTick : MethodName := ⟨RX8, "firstTick", "(I)I"⟩
abbrev cX8_greatestEnd : ByteArray := prog_10_method_55_code
def yX8_greatestEnd : MethodName := ⟨RX8, "greatestEnd", "(I)I"⟩
abbrev cX8_missedOf : ByteArray := prog_10_method_56_code
def yX8_missedOf : MethodName := ⟨RX8, "missedOf", "(I)I"⟩
abbrev cX8_lentTo : ByteArray := prog_10_method_57_code
def yX8_lentTo : MethodName := ⟨RX8, "lentTo", "(I)I"⟩
abbrev cX8_scene : ByteArray := prog_10_method_58_code
def yX8_scene : MethodName := ⟨RX8, "scene", "(II)I"⟩
abbrev cX8_missed : ByteArray := prog_10_method_59_code
def yX8_missed : MethodName := ⟨RX8, "missed", "(I)I"⟩
abbrev cX8_ifHands : ByteArray := prog_10_method_60_code
def yX8_ifHands : MethodName := ⟨RX8, "ifHands", "(I)I"⟩
abbrev cX8_cleanTakes : ByteArray := prog_10_method_61_code
def yX8_cleanTakes : MethodName := ⟨RX8, "cleanTakes", "()I"⟩
abbrev cX8_wouldMiss : ByteArray := prog_10_method_62_code
def yX8_wouldMiss : MethodName := ⟨RX8, "wouldMiss", "(Z)I"⟩
abbrev cX8_allCharges : ByteArray := prog_10_method_63_code
def yX8_allCharges : MethodName := ⟨RX8, "allCharges", "()I"⟩
abbrev cX8_count : ByteArray := prog_10_method_64_code
def yX8_count : MethodName := ⟨RX8, "count", "(I)I"⟩
def RJ9 : String := "java/lang/Math"
def TJ9 : u_T := fun k => match k with
  | _ => ("", "", "", false)
def tyJ9 : Nat → FieldType := fun k => match k with
  | _ => .int
abbrev wsJ90 : List Cond := u_ws RJ9 TJ9 0
theorem nmJ9 : ∀ a, a < 0 → ∀ b, b < 0 → a ≠ b → (TJ9 a).2.1 ≠ (TJ9 b).2.1 := by decide +kernel
theorem tyJ9_ok : ∀ k, k < 0 → parseFieldDescriptor (TJ9 k).2.2.1 = some (tyJ9 k) := by decide +kernel
abbrev cJ9_abs_0f7a4 : ByteArray := prog_11_method_59_code
def yJ9_abs_0f7a4 : MethodName := ⟨RJ9, "abs", "(I)I"⟩
abbrev cJ9_max_7cf53 : ByteArray := prog_11_method_65_code
def yJ9_max_7cf53 : MethodName := ⟨RJ9, "max", "(II)I"⟩
abbrev cJ9_min_7cf53 : ByteArray := prog_11_method_69_code
def yJ9_min_7cf53 : MethodName := ⟨RJ9, "min", "(II)I"⟩
def RJ10 : String := "java/lang/System"
def TJ10 : u_T := fun k => match k with
  | _ => ("", "", "", false)
def tyJ10 : Nat → FieldType := fun k => match k with
  | _ => .int
abbrev wsJ100 : List Cond := u_ws RJ10 TJ10 0
theorem nmJ10 : ∀ a, a < 0 → ∀ b, b < 0 → a ≠ b → (TJ10 a).2.1 ≠ (TJ10 b).2.1 := by decide +kernel
theorem tyJ10_ok : ∀ k, k < 0 → parseFieldDescriptor (TJ10 k).2.2.1 = some (tyJ10 k) := by decide +kernel
def RL : String := "LentSoundsLaw"
abbrev cL_law : ByteArray := code
def yL_law : MethodName := ⟨RL, "law", "([I)Z"⟩
def wsX4_init : List Cond := .code yX4_init cX4_init 2 none :: ([.methodLink RX4 1 objectInit, .instanceMethod objectInit, .code objectInit ⟨#[0xb1]⟩ 1 none, .methodLink RX4 7 Lib.Math.max.name, .static Lib.Math.max.name, .initialized "java/lang/Math", .code Lib.Math.max.name Lib.Math.max.code 2 (some .int), .arrayClass .int, .fieldLink RX4 13 "LentSounds$Row" "cells" "[I"] ++ wsX40)
def wsX0_init : List Cond := .code yX0_init cX0_init 2 none :: ([.methodLink RX0 3 objectInit, .instanceMethod objectInit, .code objectInit ⟨#[0xb1]⟩ 1 none, .fieldLink RX0 9 "LentSounds$CueList" "size" "I", .fieldLink RX0 15 "LentSounds$CueList" "capacity" "I", .classLink RX0 18 RX4, .instantiable RX4 1, .initialized RX4, .fieldLink RX0 23 "LentSounds$CueList" "ticks" "LLentSounds$Row;", .fieldLink RX0 27 "LentSounds$CueList" "scenes" "LLentSounds$Row;", .fieldLink RX0 30 "LentSounds$CueList" "sounds" "LLentSounds$Row;", .fieldLink RX0 33 "LentSounds$CueList" "lengths" "LLentSounds$Row;", .methodLink RX0 20 yX4_init, .instanceMethod yX4_init, .code yX4_init cX4_init 2 none, .methodLink RX4 1 objectInit, .methodLink RX4 7 Lib.Math.max.name, .static Lib.Math.max.name, .initialized "java/lang/Math", .code Lib.Math.max.name Lib.Math.max.code 2 (some .int), .arrayClass .int, .fieldLink RX4 13 "LentSounds$Row" "cells" "[I"] ++ wsX00 ++ wsX40)
def wsX4_copyFrom : List Cond := .code yX4_copyFrom cX4_copyFrom 3 none :: ([.fieldLink RX4 13 "LentSounds$Row" "cells" "[I", .methodLink RX4 27 Lib.Math.min.name, .static Lib.Math.min.name, .initialized "java/lang/Math", .code Lib.Math.min.name Lib.Math.min.code 2 (some .int), .methodLink RX4 30 arraycopyName, .native arraycopyName, .static arraycopyName, .initialized "java/lang/System"] ++ wsX40)
def wsX0_copyFrom : List Cond := .code yX0_copyFrom cX0_copyFrom 2 none :: ([.fieldLink RX0 23 "LentSounds$CueList" "ticks" "LLentSounds$Row;", .fieldLink RX0 27 "LentSounds$CueList" "scenes" "LLentSounds$Row;", .fieldLink RX0 30 "LentSounds$CueList" "sounds" "LLentSounds$Row;", .fieldLink RX0 33 "LentSounds$CueList" "lengths" "LLentSounds$Row;", .fieldLink RX0 9 "LentSounds$CueList" "size" "I", .fieldLink RX0 15 "LentSounds$CueList" "capacity" "I", .methodLink RX0 40 Lib.Math.min.name, .static Lib.Math.min.name, .initialized "java/lang/Math", .code Lib.Math.min.name Lib.Math.min.code 2 (some .int), .methodLink RX0 36 yX4_copyFrom, .instanceMethod yX4_copyFrom, .selects RX4 yX4_copyFrom yX4_copyFrom, .initialized RX4, .code yX4_copyFrom cX4_copyFrom 3 none, .fieldLink RX4 13 "LentSounds$Row" "cells" "[I", .methodLink RX4 27 Lib.Math.min.name, .methodLink RX4 30 arraycopyName, .native arraycopyName, .static arraycopyName, .initialized "java/lang/System"] ++ wsX00 ++ wsX40)
def wsX4_get : List Cond := .code yX4_get cX4_get 2 (some .int) :: ([.fieldLink RX4 13 "LentSounds$Row" "cells" "[I"] ++ wsX40)
def wsX0_endOf : List Cond := .code yX0_endOf cX0_endOf 2 (some .int) :: ([.fieldLink RX0 23 "LentSounds$CueList" "ticks" "LLentSounds$Row;", .fieldLink RX0 33 "LentSounds$CueList" "lengths" "LLentSounds$Row;", .methodLink RX0 46 yX4_get, .instanceMethod yX4_get, .selects RX4 yX4_get yX4_get, .initialized RX4, .code yX4_get cX4_get 2 (some .int), .fieldLink RX4 13 "LentSounds$Row" "cells" "[I"] ++ wsX00 ++ wsX40)
def wsX0_has : List Cond := .code yX0_has cX0_has 5 (some .boolean) :: ([.fieldLink RX0 9 "LentSounds$CueList" "size" "I", .fieldLink RX0 27 "LentSounds$CueList" "scenes" "LLentSounds$Row;", .fieldLink RX0 23 "LentSounds$CueList" "ticks" "LLentSounds$Row;", .fieldLink RX0 30 "LentSounds$CueList" "sounds" "LLentSounds$Row;", .methodLink RX0 46 yX4_get, .instanceMethod yX4_get, .selects RX4 yX4_get yX4_get, .initialized RX4, .code yX4_get cX4_get 2 (some .int), .fieldLink RX4 13 "LentSounds$Row" "cells" "[I"] ++ wsX00 ++ wsX40)
def wsX4_put : List Cond := .code yX4_put cX4_put 3 none :: ([.fieldLink RX4 13 "LentSounds$Row" "cells" "[I"] ++ wsX40)
def wsX0_append : List Cond := .code yX0_append cX0_append 5 none :: ([.fieldLink RX0 9 "LentSounds$CueList" "size" "I", .fieldLink RX0 15 "LentSounds$CueList" "capacity" "I", .fieldLink RX0 27 "LentSounds$CueList" "scenes" "LLentSounds$Row;", .fieldLink RX0 23 "LentSounds$CueList" "ticks" "LLentSounds$Row;", .fieldLink RX0 30 "LentSounds$CueList" "sounds" "LLentSounds$Row;", .fieldLink RX0 33 "LentSounds$CueList" "lengths" "LLentSounds$Row;", .methodLink RX0 50 yX4_put, .instanceMethod yX4_put, .selects RX4 yX4_put yX4_put, .initialized RX4, .code yX4_put cX4_put 3 none, .fieldLink RX4 13 "LentSounds$Row" "cells" "[I"] ++ wsX00 ++ wsX40)
def wsX0_order : List Cond := .code yX0_order cX0_order 2 (some .int) :: ([.fieldLink RX0 23 "LentSounds$CueList" "ticks" "LLentSounds$Row;", .fieldLink RX0 27 "LentSounds$CueList" "scenes" "LLentSounds$Row;", .fieldLink RX0 30 "LentSounds$CueList" "sounds" "LLentSounds$Row;", .methodLink RX0 46 yX4_get, .instanceMethod yX4_get, .selects RX4 yX4_get yX4_get, .initialized RX4, .code yX4_get cX4_get 2 (some .int), .fieldLink RX4 13 "LentSounds$Row" "cells" "[I"] ++ wsX00 ++ wsX40)
def wsX4_swap : List Cond := .code yX4_swap cX4_swap 4 none :: ([.methodLink RX4 19 yX4_get, .instanceMethod yX4_get, .selects RX4 yX4_get yX4_get, .initialized RX4, .code yX4_get cX4_get 2 (some .int), .fieldLink RX4 13 "LentSounds$Row" "cells" "[I", .methodLink RX4 23 yX4_put, .instanceMethod yX4_put, .selects RX4 yX4_put yX4_put, .code yX4_put cX4_put 3 none] ++ wsX40)
def wsX0_swap : List Cond := .code yX0_swap cX0_swap 3 none :: ([.fieldLink RX0 23 "LentSounds$CueList" "ticks" "LLentSounds$Row;", .fieldLink RX0 27 "LentSounds$CueList" "scenes" "LLentSounds$Row;", .fieldLink RX0 30 "LentSounds$CueList" "sounds" "LLentSounds$Row;", .fieldLink RX0 33 "LentSounds$CueList" "lengths" "LLentSounds$Row;", .methodLink RX0 83 yX4_swap, .instanceMethod yX4_swap, .selects RX4 yX4_swap yX4_swap, .initialized RX4, .code yX4_swap cX4_swap 4 none, .methodLink RX4 19 yX4_get, .instanceMethod yX4_get, .selects RX4 yX4_get yX4_get, .code yX4_get cX4_get 2 (some .int), .fieldLink RX4 13 "LentSounds$Row" "cells" "[I", .methodLink RX4 23 yX4_put, .instanceMethod yX4_put, .selects RX4 yX4_put yX4_put, .code yX4_put cX4_put 3 none] ++ wsX00 ++ wsX40)
def wsX0_moveToItsPlace_r1 : List Cond := [Cond.methodLink RX0 80 yX0_order, Cond.instanceMethod yX0_order, Cond.selects RX0 yX0_order yX0_order, Cond.initialized RX0, Cond.code yX0_order cX0_order 2 (some .int), Cond.fieldLink RX0 23 "LentSounds$CueList" "ticks" "LLentSounds$Row;", Cond.fieldLink RX0 27 "LentSounds$CueList" "scenes" "LLentSounds$Row;", Cond.fieldLink RX0 30 "LentSounds$CueList" "sounds" "LLentSounds$Row;", Cond.methodLink RX0 46 yX4_get, Cond.instanceMethod yX4_get, Cond.selects RX4 yX4_get yX4_get, Cond.initialized RX4, Cond.code yX4_get cX4_get 2 (some .int), Cond.fieldLink RX4 13 "LentSounds$Row" "cells" "[I", Cond.methodLink RX0 57 yX0_swap, Cond.instanceMethod yX0_swap, Cond.selects RX0 yX0_swap yX0_swap, Cond.code yX0_swap cX0_swap 3 none, Cond.fieldLink RX0 33 "LentSounds$CueList" "lengths" "LLentSounds$Row;", Cond.methodLink RX0 83 yX4_swap, Cond.instanceMethod yX4_swap, Cond.selects RX4 yX4_swap yX4_swap, Cond.code yX4_swap cX4_swap 4 none, Cond.methodLink RX4 19 yX4_get]
def wsX0_moveToItsPlace_r2 : List Cond := [Cond.methodLink RX4 23 yX4_put, Cond.instanceMethod yX4_put, Cond.selects RX4 yX4_put yX4_put, Cond.code yX4_put cX4_put 3 none]
def wsX0_moveToItsPlace : List Cond := .code yX0_moveToItsPlace cX0_moveToItsPlace 3 none :: ((wsX0_moveToItsPlace_r1 ++ wsX0_moveToItsPlace_r2) ++ wsX00 ++ wsX40)
def wsX0_putInOrder_r1 : List Cond := [Cond.fieldLink RX0 9 "LentSounds$CueList" "size" "I", Cond.methodLink RX0 54 yX0_moveToItsPlace, Cond.instanceMethod yX0_moveToItsPlace, Cond.selects RX0 yX0_moveToItsPlace yX0_moveToItsPlace, Cond.initialized RX0, Cond.code yX0_moveToItsPlace cX0_moveToItsPlace 3 none, Cond.methodLink RX0 80 yX0_order, Cond.instanceMethod yX0_order, Cond.selects RX0 yX0_order yX0_order, Cond.code yX0_order cX0_order 2 (some .int), Cond.fieldLink RX0 23 "LentSounds$CueList" "ticks" "LLentSounds$Row;", Cond.fieldLink RX0 27 "LentSounds$CueList" "scenes" "LLentSounds$Row;", Cond.fieldLink RX0 30 "LentSounds$CueList" "sounds" "LLentSounds$Row;", Cond.methodLink RX0 46 yX4_get, Cond.instanceMethod yX4_get, Cond.selects RX4 yX4_get yX4_get, Cond.initialized RX4, Cond.code yX4_get cX4_get 2 (some .int), Cond.fieldLink RX4 13 "LentSounds$Row" "cells" "[I", Cond.methodLink RX0 57 yX0_swap, Cond.instanceMethod yX0_swap, Cond.selects RX0 yX0_swap yX0_swap, Cond.code yX0_swap cX0_swap 3 none, Cond.fieldLink RX0 33 "LentSounds$CueList" "lengths" "LLentSounds$Row;"]
def wsX0_putInOrder_r2 : List Cond := [Cond.methodLink RX0 83 yX4_swap, Cond.instanceMethod yX4_swap, Cond.selects RX4 yX4_swap yX4_swap, Cond.code yX4_swap cX4_swap 4 none, Cond.methodLink RX4 19 yX4_get, Cond.methodLink RX4 23 yX4_put, Cond.instanceMethod yX4_put, Cond.selects RX4 yX4_put yX4_put, Cond.code yX4_put cX4_put 3 none]
def wsX0_putInOrder : List Cond := .code yX0_putInOrder cX0_putInOrder 2 none :: ((wsX0_putInOrder_r1 ++ wsX0_putInOrder_r2) ++ wsX00 ++ wsX40)
def wsX0_removeAt : List Cond := .code yX0_removeAt cX0_removeAt 3 none :: ([.fieldLink RX0 9 "LentSounds$CueList" "size" "I", .methodLink RX0 57 yX0_swap, .instanceMethod yX0_swap, .selects RX0 yX0_swap yX0_swap, .initialized RX0, .code yX0_swap cX0_swap 3 none, .fieldLink RX0 23 "LentSounds$CueList" "ticks" "LLentSounds$Row;", .fieldLink RX0 27 "LentSounds$CueList" "scenes" "LLentSounds$Row;", .fieldLink RX0 30 "LentSounds$CueList" "sounds" "LLentSounds$Row;", .fieldLink RX0 33 "LentSounds$CueList" "lengths" "LLentSounds$Row;", .methodLink RX0 83 yX4_swap, .instanceMethod yX4_swap, .selects RX4 yX4_swap yX4_swap, .initialized RX4, .code yX4_swap cX4_swap 4 none, .methodLink RX4 19 yX4_get, .instanceMethod yX4_get, .selects RX4 yX4_get yX4_get, .code yX4_get cX4_get 2 (some .int), .fieldLink RX4 13 "LentSounds$Row" "cells" "[I", .methodLink RX4 23 yX4_put, .instanceMethod yX4_put, .selects RX4 yX4_put yX4_put, .code yX4_put cX4_put 3 none] ++ wsX00 ++ wsX40)
def wsX0_removeScene_r1 : List Cond := [Cond.fieldLink RX0 9 "LentSounds$CueList" "size" "I", Cond.fieldLink RX0 27 "LentSounds$CueList" "scenes" "LLentSounds$Row;", Cond.methodLink RX0 46 yX4_get, Cond.instanceMethod yX4_get, Cond.selects RX4 yX4_get yX4_get, Cond.initialized RX4, Cond.code yX4_get cX4_get 2 (some .int), Cond.fieldLink RX4 13 "LentSounds$Row" "cells" "[I", Cond.methodLink RX0 57 yX0_swap, Cond.instanceMethod yX0_swap, Cond.selects RX0 yX0_swap yX0_swap, Cond.initialized RX0, Cond.code yX0_swap cX0_swap 3 none, Cond.fieldLink RX0 23 "LentSounds$CueList" "ticks" "LLentSounds$Row;", Cond.fieldLink RX0 30 "LentSounds$CueList" "sounds" "LLentSounds$Row;", Cond.fieldLink RX0 33 "LentSounds$CueList" "lengths" "LLentSounds$Row;", Cond.methodLink RX0 83 yX4_swap, Cond.instanceMethod yX4_swap, Cond.selects RX4 yX4_swap yX4_swap, Cond.code yX4_swap cX4_swap 4 none, Cond.methodLink RX4 19 yX4_get, Cond.methodLink RX4 23 yX4_put, Cond.instanceMethod yX4_put, Cond.selects RX4 yX4_put yX4_put]
def wsX0_removeScene_r2 : List Cond := [Cond.code yX4_put cX4_put 3 none]
def wsX0_removeScene : List Cond := .code yX0_removeScene cX0_removeScene 4 none :: ((wsX0_removeScene_r1 ++ wsX0_removeScene_r2) ++ wsX00 ++ wsX40)
def wsX7_isWithin : List Cond := .code yX7_isWithin cX7_isWithin 3 (some .boolean) :: ([])
def wsX0_canMove : List Cond := .code yX0_canMove cX0_canMove 4 (some .boolean) :: ([.fieldLink RX0 9 "LentSounds$CueList" "size" "I", .fieldLink RX0 27 "LentSounds$CueList" "scenes" "LLentSounds$Row;", .fieldLink RX0 23 "LentSounds$CueList" "ticks" "LLentSounds$Row;", .methodLink RX0 46 yX4_get, .instanceMethod yX4_get, .selects RX4 yX4_get yX4_get, .initialized RX4, .code yX4_get cX4_get 2 (some .int), .fieldLink RX4 13 "LentSounds$Row" "cells" "[I", .static yX7_isWithin, .initialized RX7, .code yX7_isWithin cX7_isWithin 3 (some .boolean)] ++ wsX00 ++ wsX40)
def wsX4_increase : List Cond := .code yX4_increase cX4_increase 3 none :: ([.methodLink RX4 19 yX4_get, .instanceMethod yX4_get, .selects RX4 yX4_get yX4_get, .initialized RX4, .code yX4_get cX4_get 2 (some .int), .fieldLink RX4 13 "LentSounds$Row" "cells" "[I", .methodLink RX4 23 yX4_put, .instanceMethod yX4_put, .selects RX4 yX4_put yX4_put, .code yX4_put cX4_put 3 none] ++ wsX40)
def wsX0_moveScene_r1 : List Cond := [Cond.fieldLink RX0 9 "LentSounds$CueList" "size" "I", Cond.fieldLink RX0 27 "LentSounds$CueList" "scenes" "LLentSounds$Row;", Cond.fieldLink RX0 23 "LentSounds$CueList" "ticks" "LLentSounds$Row;", Cond.methodLink RX0 46 yX4_get, Cond.instanceMethod yX4_get, Cond.selects RX4 yX4_get yX4_get, Cond.initialized RX4, Cond.code yX4_get cX4_get 2 (some .int), Cond.fieldLink RX4 13 "LentSounds$Row" "cells" "[I", Cond.methodLink RX0 64 yX4_increase, Cond.instanceMethod yX4_increase, Cond.selects RX4 yX4_increase yX4_increase, Cond.code yX4_increase cX4_increase 3 none, Cond.methodLink RX4 19 yX4_get, Cond.methodLink RX4 23 yX4_put, Cond.instanceMethod yX4_put, Cond.selects RX4 yX4_put yX4_put, Cond.code yX4_put cX4_put 3 none, Cond.methodLink RX0 67 yX0_putInOrder, Cond.instanceMethod yX0_putInOrder, Cond.selects RX0 yX0_putInOrder yX0_putInOrder, Cond.initialized RX0, Cond.code yX0_putInOrder cX0_putInOrder 2 none, Cond.methodLink RX0 54 yX0_moveToItsPlace]
def wsX0_moveScene_r2 : List Cond := [Cond.instanceMethod yX0_moveToItsPlace, Cond.selects RX0 yX0_moveToItsPlace yX0_moveToItsPlace, Cond.code yX0_moveToItsPlace cX0_moveToItsPlace 3 none, Cond.methodLink RX0 80 yX0_order, Cond.instanceMethod yX0_order, Cond.selects RX0 yX0_order yX0_order, Cond.code yX0_order cX0_order 2 (some .int), Cond.fieldLink RX0 30 "LentSounds$CueList" "sounds" "LLentSounds$Row;", Cond.methodLink RX0 57 yX0_swap, Cond.instanceMethod yX0_swap, Cond.selects RX0 yX0_swap yX0_swap, Cond.code yX0_swap cX0_swap 3 none, Cond.fieldLink RX0 33 "LentSounds$CueList" "lengths" "LLentSounds$Row;", Cond.methodLink RX0 83 yX4_swap, Cond.instanceMethod yX4_swap, Cond.selects RX4 yX4_swap yX4_swap, Cond.code yX4_swap cX4_swap 4 none]
def wsX0_moveScene : List Cond := .code yX0_moveScene cX0_moveScene 4 none :: ((wsX0_moveScene_r1 ++ wsX0_moveScene_r2) ++ wsX00 ++ wsX40)
def wsX0_timesIn : List Cond := .code yX0_timesIn cX0_timesIn 5 (some .int) :: ([.fieldLink RX0 9 "LentSounds$CueList" "size" "I", .methodLink RX0 46 yX4_get, .instanceMethod yX4_get, .selects RX4 yX4_get yX4_get, .initialized RX4, .code yX4_get cX4_get 2 (some .int), .fieldLink RX4 13 "LentSounds$Row" "cells" "[I"] ++ wsX00 ++ wsX40)
def wsX0_sizeOfScene : List Cond := .code yX0_sizeOfScene cX0_sizeOfScene 2 (some .int) :: ([.fieldLink RX0 27 "LentSounds$CueList" "scenes" "LLentSounds$Row;", .methodLink RX0 70 yX0_timesIn, .instanceMethod yX0_timesIn, .selects RX0 yX0_timesIn yX0_timesIn, .initialized RX0, .code yX0_timesIn cX0_timesIn 5 (some .int), .fieldLink RX0 9 "LentSounds$CueList" "size" "I", .methodLink RX0 46 yX4_get, .instanceMethod yX4_get, .selects RX4 yX4_get yX4_get, .initialized RX4, .code yX4_get cX4_get 2 (some .int), .fieldLink RX4 13 "LentSounds$Row" "cells" "[I"] ++ wsX00 ++ wsX40)
def wsX0_sizeOfSound : List Cond := .code yX0_sizeOfSound cX0_sizeOfSound 2 (some .int) :: ([.fieldLink RX0 30 "LentSounds$CueList" "sounds" "LLentSounds$Row;", .methodLink RX0 70 yX0_timesIn, .instanceMethod yX0_timesIn, .selects RX0 yX0_timesIn yX0_timesIn, .initialized RX0, .code yX0_timesIn cX0_timesIn 5 (some .int), .fieldLink RX0 9 "LentSounds$CueList" "size" "I", .methodLink RX0 46 yX4_get, .instanceMethod yX4_get, .selects RX4 yX4_get yX4_get, .initialized RX4, .code yX4_get cX4_get 2 (some .int), .fieldLink RX4 13 "LentSounds$Row" "cells" "[I"] ++ wsX00 ++ wsX40)
def wsX0_firstTick : List Cond := .code yX0_firstTick cX0_firstTick 3 (some .int) :: ([.fieldLink RX0 9 "LentSounds$CueList" "size" "I", .fieldLink RX0 27 "LentSounds$CueList" "scenes" "LLentSounds$Row;", .fieldLink RX0 23 "LentSounds$CueList" "ticks" "LLentSounds$Row;", .methodLink RX0 46 yX4_get, .instanceMethod yX4_get, .selects RX4 yX4_get yX4_get, .initialized RX4, .code yX4_get cX4_get 2 (some .int), .fieldLink RX4 13 "LentSounds$Row" "cells" "[I"] ++ wsX00 ++ wsX40)
def wsX0_greatestEnd : List Cond := .code yX0_greatestEnd cX0_greatestEnd 4 (some .int) :: ([.fieldLink RX0 9 "LentSounds$CueList" "size" "I", .fieldLink RX0 27 "LentSounds$CueList" "scenes" "LLentSounds$Row;", .methodLink RX0 77 Lib.Math.max.name, .static Lib.Math.max.name, .initialized "java/lang/Math", .code Lib.Math.max.name Lib.Math.max.code 2 (some .int), .methodLink RX0 46 yX4_get, .instanceMethod yX4_get, .selects RX4 yX4_get yX4_get, .initialized RX4, .code yX4_get cX4_get 2 (some .int), .fieldLink RX4 13 "LentSounds$Row" "cells" "[I", .methodLink RX0 74 yX0_endOf, .instanceMethod yX0_endOf, .selects RX0 yX0_endOf yX0_endOf, .initialized RX0, .code yX0_endOf cX0_endOf 2 (some .int), .fieldLink RX0 23 "LentSounds$CueList" "ticks" "LLentSounds$Row;", .fieldLink RX0 33 "LentSounds$CueList" "lengths" "LLentSounds$Row;"] ++ wsX00 ++ wsX40)
def wsX1_init_r1 : List Cond := [Cond.methodLink RX1 3 objectInit, Cond.instanceMethod objectInit, Cond.code objectInit ⟨#[0xb1]⟩ 1 none, Cond.classLink RX1 9 RX0, Cond.instantiable RX0 6, Cond.initialized RX0, Cond.fieldLink RX1 14 "LentSounds$CueReader" "drafts" "LLentSounds$CueList;", Cond.fieldLink RX1 20 "LentSounds$CueReader" "position" "I", Cond.fieldLink RX1 24 "LentSounds$CueReader" "faulty" "Z", Cond.fieldLink RX1 28 "LentSounds$CueReader" "foundTwice" "Z", Cond.methodLink RX1 11 yX0_init, Cond.instanceMethod yX0_init, Cond.code yX0_init cX0_init 2 none, Cond.methodLink RX0 3 objectInit, Cond.fieldLink RX0 9 "LentSounds$CueList" "size" "I", Cond.fieldLink RX0 15 "LentSounds$CueList" "capacity" "I", Cond.classLink RX0 18 RX4, Cond.instantiable RX4 1, Cond.initialized RX4, Cond.fieldLink RX0 23 "LentSounds$CueList" "ticks" "LLentSounds$Row;", Cond.fieldLink RX0 27 "LentSounds$CueList" "scenes" "LLentSounds$Row;", Cond.fieldLink RX0 30 "LentSounds$CueList" "sounds" "LLentSounds$Row;", Cond.fieldLink RX0 33 "LentSounds$CueList" "lengths" "LLentSounds$Row;", Cond.methodLink RX0 20 yX4_init]
def wsX1_init_r2 : List Cond := [Cond.instanceMethod yX4_init, Cond.code yX4_init cX4_init 2 none, Cond.methodLink RX4 1 objectInit, Cond.methodLink RX4 7 Lib.Math.max.name, Cond.static Lib.Math.max.name, Cond.initialized "java/lang/Math", Cond.code Lib.Math.max.name Lib.Math.max.code 2 (some .int), Cond.arrayClass .int, Cond.fieldLink RX4 13 "LentSounds$Row" "cells" "[I"]
def wsX1_init : List Cond := .code yX1_init cX1_init 1 none :: ((wsX1_init_r1 ++ wsX1_init_r2) ++ wsX00 ++ wsX10 ++ wsX40)
def wsX7_isBelow : List Cond := .code yX7_isBelow cX7_isBelow 2 (some .boolean) :: ([])
def wsX6_at : List Cond := .code yX6_at cX6_at 2 (some .int) :: ([.fieldLink RX6 20 "LentSounds$Text" "length" "I", .fieldLink RX6 14 "LentSounds$Text" "characters" "LLentSounds$Row;", .static yX7_isBelow, .initialized RX7, .code yX7_isBelow cX7_isBelow 2 (some .boolean), .methodLink RX6 32 yX4_get, .instanceMethod yX4_get, .selects RX4 yX4_get yX4_get, .initialized RX4, .code yX4_get cX4_get 2 (some .int), .fieldLink RX4 13 "LentSounds$Row" "cells" "[I"] ++ wsX60 ++ wsX40)
def wsX1_digitAt : List Cond := .code yX1_digitAt cX1_digitAt 3 (some .int) :: ([.methodLink RX1 55 yX6_at, .instanceMethod yX6_at, .selects RX6 yX6_at yX6_at, .initialized RX6, .code yX6_at cX6_at 2 (some .int), .fieldLink RX6 20 "LentSounds$Text" "length" "I", .fieldLink RX6 14 "LentSounds$Text" "characters" "LLentSounds$Row;", .static yX7_isBelow, .initialized RX7, .code yX7_isBelow cX7_isBelow 2 (some .boolean), .methodLink RX6 32 yX4_get, .instanceMethod yX4_get, .selects RX4 yX4_get yX4_get, .initialized RX4, .code yX4_get cX4_get 2 (some .int), .fieldLink RX4 13 "LentSounds$Row" "cells" "[I", .static yX7_isWithin, .code yX7_isWithin cX7_isWithin 3 (some .boolean)] ++ wsX60 ++ wsX40)
def wsX1_readNumber : List Cond := .code yX1_readNumber cX1_readNumber 6 (some .int) :: ([.fieldLink RX1 24 "LentSounds$CueReader" "faulty" "Z", .fieldLink RX1 20 "LentSounds$CueReader" "position" "I", .methodLink RX1 70 yX1_digitAt, .static yX1_digitAt, .initialized RX1, .code yX1_digitAt cX1_digitAt 3 (some .int), .methodLink RX1 55 yX6_at, .instanceMethod yX6_at, .selects RX6 yX6_at yX6_at, .initialized RX6, .code yX6_at cX6_at 2 (some .int), .fieldLink RX6 20 "LentSounds$Text" "length" "I", .fieldLink RX6 14 "LentSounds$Text" "characters" "LLentSounds$Row;", .static yX7_isBelow, .initialized RX7, .code yX7_isBelow cX7_isBelow 2 (some .boolean), .methodLink RX6 32 yX4_get, .instanceMethod yX4_get, .selects RX4 yX4_get yX4_get, .initialized RX4, .code yX4_get cX4_get 2 (some .int), .fieldLink RX4 13 "LentSounds$Row" "cells" "[I", .static yX7_isWithin, .code yX7_isWithin cX7_isWithin 3 (some .boolean)] ++ wsX10 ++ wsX60 ++ wsX40)
def wsX1_readSign : List Cond := .code yX1_readSign cX1_readSign 3 none :: ([.fieldLink RX1 24 "LentSounds$CueReader" "faulty" "Z", .fieldLink RX1 20 "LentSounds$CueReader" "position" "I", .methodLink RX1 55 yX6_at, .instanceMethod yX6_at, .selects RX6 yX6_at yX6_at, .initialized RX6, .code yX6_at cX6_at 2 (some .int), .fieldLink RX6 20 "LentSounds$Text" "length" "I", .fieldLink RX6 14 "LentSounds$Text" "characters" "LLentSounds$Row;", .static yX7_isBelow, .initialized RX7, .code yX7_isBelow cX7_isBelow 2 (some .boolean), .methodLink RX6 32 yX4_get, .instanceMethod yX4_get, .selects RX4 yX4_get yX4_get, .initialized RX4, .code yX4_get cX4_get 2 (some .int), .fieldLink RX4 13 "LentSounds$Row" "cells" "[I"] ++ wsX10 ++ wsX60 ++ wsX40)
def wsX1_addDraft_r1 : List Cond := [Cond.fieldLink RX1 14 "LentSounds$CueReader" "drafts" "LLentSounds$CueList;", Cond.fieldLink RX1 28 "LentSounds$CueReader" "foundTwice" "Z", Cond.methodLink RX1 63 yX0_has, Cond.instanceMethod yX0_has, Cond.selects RX0 yX0_has yX0_has, Cond.initialized RX0, Cond.code yX0_has cX0_has 5 (some .boolean), Cond.fieldLink RX0 9 "LentSounds$CueList" "size" "I", Cond.fieldLink RX0 27 "LentSounds$CueList" "scenes" "LLentSounds$Row;", Cond.fieldLink RX0 23 "LentSounds$CueList" "ticks" "LLentSounds$Row;", Cond.fieldLink RX0 30 "LentSounds$CueList" "sounds" "LLentSounds$Row;", Cond.methodLink RX0 46 yX4_get, Cond.instanceMethod yX4_get, Cond.selects RX4 yX4_get yX4_get, Cond.initialized RX4, Cond.code yX4_get cX4_get 2 (some .int), Cond.fieldLink RX4 13 "LentSounds$Row" "cells" "[I", Cond.methodLink RX1 67 yX0_append, Cond.instanceMethod yX0_append, Cond.selects RX0 yX0_append yX0_append, Cond.code yX0_append cX0_append 5 none, Cond.fieldLink RX0 15 "LentSounds$CueList" "capacity" "I", Cond.fieldLink RX0 33 "LentSounds$CueList" "lengths" "LLentSounds$Row;", Cond.methodLink RX0 50 yX4_put]
def wsX1_addDraft_r2 : List Cond := [Cond.instanceMethod yX4_put, Cond.selects RX4 yX4_put yX4_put, Cond.code yX4_put cX4_put 3 none]
def wsX1_addDraft : List Cond := .code yX1_addDraft cX1_addDraft 5 none :: ((wsX1_addDraft_r1 ++ wsX1_addDraft_r2) ++ wsX10 ++ wsX00 ++ wsX40)
def wsX1_readCue_r1 : List Cond := [Cond.fieldLink RX1 24 "LentSounds$CueReader" "faulty" "Z", Cond.fieldLink RX1 20 "LentSounds$CueReader" "position" "I", Cond.methodLink RX1 51 yX1_readNumber, Cond.instanceMethod yX1_readNumber, Cond.selects RX1 yX1_readNumber yX1_readNumber, Cond.initialized RX1, Cond.code yX1_readNumber cX1_readNumber 6 (some .int), Cond.methodLink RX1 70 yX1_digitAt, Cond.static yX1_digitAt, Cond.code yX1_digitAt cX1_digitAt 3 (some .int), Cond.methodLink RX1 55 yX6_at, Cond.instanceMethod yX6_at, Cond.selects RX6 yX6_at yX6_at, Cond.initialized RX6, Cond.code yX6_at cX6_at 2 (some .int), Cond.fieldLink RX6 20 "LentSounds$Text" "length" "I", Cond.fieldLink RX6 14 "LentSounds$Text" "characters" "LLentSounds$Row;", Cond.static yX7_isBelow, Cond.initialized RX7, Cond.code yX7_isBelow cX7_isBelow 2 (some .boolean), Cond.methodLink RX6 32 yX4_get, Cond.instanceMethod yX4_get, Cond.selects RX4 yX4_get yX4_get, Cond.initialized RX4]
def wsX1_readCue_r2 : List Cond := [Cond.code yX4_get cX4_get 2 (some .int), Cond.fieldLink RX4 13 "LentSounds$Row" "cells" "[I", Cond.static yX7_isWithin, Cond.code yX7_isWithin cX7_isWithin 3 (some .boolean), Cond.methodLink RX1 44 yX1_readSign, Cond.instanceMethod yX1_readSign, Cond.selects RX1 yX1_readSign yX1_readSign, Cond.code yX1_readSign cX1_readSign 3 none, Cond.methodLink RX1 59 yX1_addDraft, Cond.instanceMethod yX1_addDraft, Cond.selects RX1 yX1_addDraft yX1_addDraft, Cond.code yX1_addDraft cX1_addDraft 5 none, Cond.fieldLink RX1 14 "LentSounds$CueReader" "drafts" "LLentSounds$CueList;", Cond.fieldLink RX1 28 "LentSounds$CueReader" "foundTwice" "Z", Cond.methodLink RX1 63 yX0_has, Cond.instanceMethod yX0_has, Cond.selects RX0 yX0_has yX0_has, Cond.initialized RX0, Cond.code yX0_has cX0_has 5 (some .boolean), Cond.fieldLink RX0 9 "LentSounds$CueList" "size" "I", Cond.fieldLink RX0 27 "LentSounds$CueList" "scenes" "LLentSounds$Row;", Cond.fieldLink RX0 23 "LentSounds$CueList" "ticks" "LLentSounds$Row;", Cond.fieldLink RX0 30 "LentSounds$CueList" "sounds" "LLentSounds$Row;", Cond.methodLink RX0 46 yX4_get]
def wsX1_readCue_r3 : List Cond := [Cond.methodLink RX1 67 yX0_append, Cond.instanceMethod yX0_append, Cond.selects RX0 yX0_append yX0_append, Cond.code yX0_append cX0_append 5 none, Cond.fieldLink RX0 15 "LentSounds$CueList" "capacity" "I", Cond.fieldLink RX0 33 "LentSounds$CueList" "lengths" "LLentSounds$Row;", Cond.methodLink RX0 50 yX4_put, Cond.instanceMethod yX4_put, Cond.selects RX4 yX4_put yX4_put, Cond.code yX4_put cX4_put 3 none]
def wsX1_readCue : List Cond := .code yX1_readCue cX1_readCue 6 none :: ((wsX1_readCue_r1 ++ (wsX1_readCue_r2 ++ wsX1_readCue_r3)) ++ wsX10 ++ wsX60 ++ wsX40 ++ wsX00)
def wsX1_readBehind_r1 : List Cond := [Cond.fieldLink RX1 14 "LentSounds$CueReader" "drafts" "LLentSounds$CueList;", Cond.fieldLink RX1 20 "LentSounds$CueReader" "position" "I", Cond.fieldLink RX1 24 "LentSounds$CueReader" "faulty" "Z", Cond.fieldLink RX1 28 "LentSounds$CueReader" "foundTwice" "Z", Cond.methodLink RX1 31 yX0_copyFrom, Cond.instanceMethod yX0_copyFrom, Cond.selects RX0 yX0_copyFrom yX0_copyFrom, Cond.initialized RX0, Cond.code yX0_copyFrom cX0_copyFrom 2 none, Cond.fieldLink RX0 23 "LentSounds$CueList" "ticks" "LLentSounds$Row;", Cond.fieldLink RX0 27 "LentSounds$CueList" "scenes" "LLentSounds$Row;", Cond.fieldLink RX0 30 "LentSounds$CueList" "sounds" "LLentSounds$Row;", Cond.fieldLink RX0 33 "LentSounds$CueList" "lengths" "LLentSounds$Row;", Cond.fieldLink RX0 9 "LentSounds$CueList" "size" "I", Cond.fieldLink RX0 15 "LentSounds$CueList" "capacity" "I", Cond.methodLink RX0 40 Lib.Math.min.name, Cond.static Lib.Math.min.name, Cond.initialized "java/lang/Math", Cond.code Lib.Math.min.name Lib.Math.min.code 2 (some .int), Cond.methodLink RX0 36 yX4_copyFrom, Cond.instanceMethod yX4_copyFrom, Cond.selects RX4 yX4_copyFrom yX4_copyFrom, Cond.initialized RX4, Cond.code yX4_copyFrom cX4_copyFrom 3 none]
def wsX1_readBehind_r2 : List Cond := [Cond.fieldLink RX4 13 "LentSounds$Row" "cells" "[I", Cond.methodLink RX4 27 Lib.Math.min.name, Cond.methodLink RX4 30 arraycopyName, Cond.native arraycopyName, Cond.static arraycopyName, Cond.initialized "java/lang/System", Cond.methodLink RX1 35 yX1_readCue, Cond.instanceMethod yX1_readCue, Cond.selects RX1 yX1_readCue yX1_readCue, Cond.initialized RX1, Cond.code yX1_readCue cX1_readCue 6 none, Cond.methodLink RX1 51 yX1_readNumber, Cond.instanceMethod yX1_readNumber, Cond.selects RX1 yX1_readNumber yX1_readNumber, Cond.code yX1_readNumber cX1_readNumber 6 (some .int), Cond.methodLink RX1 70 yX1_digitAt, Cond.static yX1_digitAt, Cond.code yX1_digitAt cX1_digitAt 3 (some .int), Cond.methodLink RX1 55 yX6_at, Cond.instanceMethod yX6_at, Cond.selects RX6 yX6_at yX6_at, Cond.initialized RX6, Cond.code yX6_at cX6_at 2 (some .int), Cond.fieldLink RX6 20 "LentSounds$Text" "length" "I"]
def wsX1_readBehind_r3 : List Cond := [Cond.fieldLink RX6 14 "LentSounds$Text" "characters" "LLentSounds$Row;", Cond.static yX7_isBelow, Cond.initialized RX7, Cond.code yX7_isBelow cX7_isBelow 2 (some .boolean), Cond.methodLink RX6 32 yX4_get, Cond.instanceMethod yX4_get, Cond.selects RX4 yX4_get yX4_get, Cond.code yX4_get cX4_get 2 (some .int), Cond.static yX7_isWithin, Cond.code yX7_isWithin cX7_isWithin 3 (some .boolean), Cond.methodLink RX1 44 yX1_readSign, Cond.instanceMethod yX1_readSign, Cond.selects RX1 yX1_readSign yX1_readSign, Cond.code yX1_readSign cX1_readSign 3 none, Cond.methodLink RX1 59 yX1_addDraft, Cond.instanceMethod yX1_addDraft, Cond.selects RX1 yX1_addDraft yX1_addDraft, Cond.code yX1_addDraft cX1_addDraft 5 none, Cond.methodLink RX1 63 yX0_has, Cond.instanceMethod yX0_has, Cond.selects RX0 yX0_has yX0_has, Cond.code yX0_has cX0_has 5 (some .boolean), Cond.methodLink RX0 46 yX4_get, Cond.methodLink RX1 67 yX0_append]
def wsX1_readBehind_r4 : List Cond := [Cond.instanceMethod yX0_append, Cond.selects RX0 yX0_append yX0_append, Cond.code yX0_append cX0_append 5 none, Cond.methodLink RX0 50 yX4_put, Cond.instanceMethod yX4_put, Cond.selects RX4 yX4_put yX4_put, Cond.code yX4_put cX4_put 3 none, Cond.methodLink RX1 48 yX0_putInOrder, Cond.instanceMethod yX0_putInOrder, Cond.selects RX0 yX0_putInOrder yX0_putInOrder, Cond.code yX0_putInOrder cX0_putInOrder 2 none, Cond.methodLink RX0 54 yX0_moveToItsPlace, Cond.instanceMethod yX0_moveToItsPlace, Cond.selects RX0 yX0_moveToItsPlace yX0_moveToItsPlace, Cond.code yX0_moveToItsPlace cX0_moveToItsPlace 3 none, Cond.methodLink RX0 80 yX0_order, Cond.instanceMethod yX0_order, Cond.selects RX0 yX0_order yX0_order, Cond.code yX0_order cX0_order 2 (some .int), Cond.methodLink RX0 57 yX0_swap, Cond.instanceMethod yX0_swap, Cond.selects RX0 yX0_swap yX0_swap, Cond.code yX0_swap cX0_swap 3 none, Cond.methodLink RX0 83 yX4_swap]
def wsX1_readBehind_r5 : List Cond := [Cond.instanceMethod yX4_swap, Cond.selects RX4 yX4_swap yX4_swap, Cond.code yX4_swap cX4_swap 4 none, Cond.methodLink RX4 19 yX4_get, Cond.methodLink RX4 23 yX4_put]
def wsX1_readBehind : List Cond := .code yX1_readBehind cX1_readBehind 4 none :: ((wsX1_readBehind_r1 ++ (wsX1_readBehind_r2 ++ (wsX1_readBehind_r3 ++ (wsX1_readBehind_r4 ++ wsX1_readBehind_r5)))) ++ wsX10 ++ wsX60 ++ wsX00 ++ wsX40)
def wsX5_init_r1 : List Cond := [Cond.methodLink RX5 3 objectInit, Cond.instanceMethod objectInit, Cond.code objectInit ⟨#[0xb1]⟩ 1 none, Cond.classLink RX5 9 RX4, Cond.instantiable RX4 1, Cond.initialized RX4, Cond.fieldLink RX5 14 "LentSounds$State" "soundShelves" "LLentSounds$Row;", Cond.fieldLink RX5 20 "LentSounds$State" "charges" "LLentSounds$Row;", Cond.fieldLink RX5 23 "LentSounds$State" "loudness" "LLentSounds$Row;", Cond.fieldLink RX5 26 "LentSounds$State" "handShelves" "LLentSounds$Row;", Cond.classLink RX5 29 RX0, Cond.instantiable RX0 6, Cond.initialized RX0, Cond.fieldLink RX5 32 "LentSounds$State" "cues" "LLentSounds$CueList;", Cond.fieldLink RX5 36 "LentSounds$State" "hands" "I", Cond.fieldLink RX5 40 "LentSounds$State" "carrying" "I", Cond.fieldLink RX5 43 "LentSounds$State" "takes" "I", Cond.fieldLink RX5 46 "LentSounds$State" "playedCues" "I", Cond.fieldLink RX5 49 "LentSounds$State" "missedCues" "I", Cond.fieldLink RX5 52 "LentSounds$State" "missedByEar" "I", Cond.methodLink RX5 11 yX4_init, Cond.instanceMethod yX4_init, Cond.code yX4_init cX4_init 2 none, Cond.methodLink RX4 1 objectInit]
def wsX5_init_r2 : List Cond := [Cond.methodLink RX4 7 Lib.Math.max.name, Cond.static Lib.Math.max.name, Cond.initialized "java/lang/Math", Cond.code Lib.Math.max.name Lib.Math.max.code 2 (some .int), Cond.arrayClass .int, Cond.fieldLink RX4 13 "LentSounds$Row" "cells" "[I", Cond.methodLink RX5 31 yX0_init, Cond.instanceMethod yX0_init, Cond.code yX0_init cX0_init 2 none, Cond.methodLink RX0 3 objectInit, Cond.fieldLink RX0 9 "LentSounds$CueList" "size" "I", Cond.fieldLink RX0 15 "LentSounds$CueList" "capacity" "I", Cond.classLink RX0 18 RX4, Cond.fieldLink RX0 23 "LentSounds$CueList" "ticks" "LLentSounds$Row;", Cond.fieldLink RX0 27 "LentSounds$CueList" "scenes" "LLentSounds$Row;", Cond.fieldLink RX0 30 "LentSounds$CueList" "sounds" "LLentSounds$Row;", Cond.fieldLink RX0 33 "LentSounds$CueList" "lengths" "LLentSounds$Row;", Cond.methodLink RX0 20 yX4_init, Cond.methodLink RX5 55 yX4_put, Cond.instanceMethod yX4_put, Cond.selects RX4 yX4_put yX4_put, Cond.code yX4_put cX4_put 3 none]
def wsX5_init : List Cond := .code yX5_init cX5_init 2 none :: ((wsX5_init_r1 ++ wsX5_init_r2) ++ wsX40 ++ wsX50 ++ wsX00)
def wsX2_init_r1 : List Cond := [Cond.methodLink RX2 3 objectInit, Cond.instanceMethod objectInit, Cond.code objectInit ⟨#[0xb1]⟩ 1 none, Cond.classLink RX2 9 RX5, Cond.fieldLink RX2 11 "LentSounds$History" "states" "[LLentSounds$State;", Cond.fieldLink RX2 17 "LentSounds$History" "size" "I", Cond.instantiable RX5 11, Cond.initialized RX5, Cond.methodLink RX2 21 yX5_init, Cond.instanceMethod yX5_init, Cond.code yX5_init cX5_init 2 none, Cond.methodLink RX5 3 objectInit, Cond.classLink RX5 9 RX4, Cond.instantiable RX4 1, Cond.initialized RX4, Cond.fieldLink RX5 14 "LentSounds$State" "soundShelves" "LLentSounds$Row;", Cond.fieldLink RX5 20 "LentSounds$State" "charges" "LLentSounds$Row;", Cond.fieldLink RX5 23 "LentSounds$State" "loudness" "LLentSounds$Row;", Cond.fieldLink RX5 26 "LentSounds$State" "handShelves" "LLentSounds$Row;", Cond.classLink RX5 29 RX0, Cond.instantiable RX0 6, Cond.initialized RX0, Cond.fieldLink RX5 32 "LentSounds$State" "cues" "LLentSounds$CueList;", Cond.fieldLink RX5 36 "LentSounds$State" "hands" "I"]
def wsX2_init_r2 : List Cond := [Cond.fieldLink RX5 40 "LentSounds$State" "carrying" "I", Cond.fieldLink RX5 43 "LentSounds$State" "takes" "I", Cond.fieldLink RX5 46 "LentSounds$State" "playedCues" "I", Cond.fieldLink RX5 49 "LentSounds$State" "missedCues" "I", Cond.fieldLink RX5 52 "LentSounds$State" "missedByEar" "I", Cond.methodLink RX5 11 yX4_init, Cond.instanceMethod yX4_init, Cond.code yX4_init cX4_init 2 none, Cond.methodLink RX4 1 objectInit, Cond.methodLink RX4 7 Lib.Math.max.name, Cond.static Lib.Math.max.name, Cond.initialized "java/lang/Math", Cond.code Lib.Math.max.name Lib.Math.max.code 2 (some .int), Cond.arrayClass .int, Cond.fieldLink RX4 13 "LentSounds$Row" "cells" "[I", Cond.methodLink RX5 31 yX0_init, Cond.instanceMethod yX0_init, Cond.code yX0_init cX0_init 2 none, Cond.methodLink RX0 3 objectInit, Cond.fieldLink RX0 9 "LentSounds$CueList" "size" "I", Cond.fieldLink RX0 15 "LentSounds$CueList" "capacity" "I", Cond.classLink RX0 18 RX4, Cond.fieldLink RX0 23 "LentSounds$CueList" "ticks" "LLentSounds$Row;", Cond.fieldLink RX0 27 "LentSounds$CueList" "scenes" "LLentSounds$Row;"]
def wsX2_init_r3 : List Cond := [Cond.fieldLink RX0 30 "LentSounds$CueList" "sounds" "LLentSounds$Row;", Cond.fieldLink RX0 33 "LentSounds$CueList" "lengths" "LLentSounds$Row;", Cond.methodLink RX0 20 yX4_init, Cond.methodLink RX5 55 yX4_put, Cond.instanceMethod yX4_put, Cond.selects RX4 yX4_put yX4_put, Cond.code yX4_put cX4_put 3 none]
def wsX2_init : List Cond := .code yX2_init cX2_init 2 none :: ((wsX2_init_r1 ++ (wsX2_init_r2 ++ wsX2_init_r3)) ++ wsX20 ++ wsX50 ++ wsX40 ++ wsX00)
def wsX2_dropOldest : List Cond := .code yX2_dropOldest cX2_dropOldest 3 none :: ([.fieldLink RX2 11 "LentSounds$History" "states" "[LLentSounds$State;", .fieldLink RX2 17 "LentSounds$History" "size" "I"] ++ wsX20)
def wsX2_at : List Cond := .code yX2_at cX2_at 2 (some (.object "LentSounds$State")) :: ([.fieldLink RX2 11 "LentSounds$History" "states" "[LLentSounds$State;"] ++ wsX20)
def wsX5_copyFrom_r1 : List Cond := [Cond.fieldLink RX5 14 "LentSounds$State" "soundShelves" "LLentSounds$Row;", Cond.fieldLink RX5 20 "LentSounds$State" "charges" "LLentSounds$Row;", Cond.fieldLink RX5 23 "LentSounds$State" "loudness" "LLentSounds$Row;", Cond.fieldLink RX5 26 "LentSounds$State" "handShelves" "LLentSounds$Row;", Cond.fieldLink RX5 32 "LentSounds$State" "cues" "LLentSounds$CueList;", Cond.fieldLink RX5 36 "LentSounds$State" "hands" "I", Cond.fieldLink RX5 40 "LentSounds$State" "carrying" "I", Cond.fieldLink RX5 43 "LentSounds$State" "takes" "I", Cond.fieldLink RX5 46 "LentSounds$State" "playedCues" "I", Cond.fieldLink RX5 49 "LentSounds$State" "missedCues" "I", Cond.fieldLink RX5 52 "LentSounds$State" "missedByEar" "I", Cond.methodLink RX5 59 yX4_copyFrom, Cond.instanceMethod yX4_copyFrom, Cond.selects RX4 yX4_copyFrom yX4_copyFrom, Cond.initialized RX4, Cond.code yX4_copyFrom cX4_copyFrom 3 none, Cond.fieldLink RX4 13 "LentSounds$Row" "cells" "[I", Cond.methodLink RX4 27 Lib.Math.min.name, Cond.static Lib.Math.min.name, Cond.initialized "java/lang/Math", Cond.code Lib.Math.min.name Lib.Math.min.code 2 (some .int), Cond.methodLink RX4 30 arraycopyName, Cond.native arraycopyName, Cond.static arraycopyName]
def wsX5_copyFrom_r2 : List Cond := [Cond.initialized "java/lang/System", Cond.methodLink RX5 63 yX0_copyFrom, Cond.instanceMethod yX0_copyFrom, Cond.selects RX0 yX0_copyFrom yX0_copyFrom, Cond.initialized RX0, Cond.code yX0_copyFrom cX0_copyFrom 2 none, Cond.fieldLink RX0 23 "LentSounds$CueList" "ticks" "LLentSounds$Row;", Cond.fieldLink RX0 27 "LentSounds$CueList" "scenes" "LLentSounds$Row;", Cond.fieldLink RX0 30 "LentSounds$CueList" "sounds" "LLentSounds$Row;", Cond.fieldLink RX0 33 "LentSounds$CueList" "lengths" "LLentSounds$Row;", Cond.fieldLink RX0 9 "LentSounds$CueList" "size" "I", Cond.fieldLink RX0 15 "LentSounds$CueList" "capacity" "I", Cond.methodLink RX0 40 Lib.Math.min.name, Cond.methodLink RX0 36 yX4_copyFrom]
def wsX5_copyFrom : List Cond := .code yX5_copyFrom cX5_copyFrom 2 none :: ((wsX5_copyFrom_r1 ++ wsX5_copyFrom_r2) ++ wsX50 ++ wsX40 ++ wsX00)
def wsX2_record_r1 : List Cond := [Cond.fieldLink RX2 17 "LentSounds$History" "size" "I", Cond.fieldLink RX2 11 "LentSounds$History" "states" "[LLentSounds$State;", Cond.methodLink RX2 22 yX2_dropOldest, Cond.instanceMethod yX2_dropOldest, Cond.selects RX2 yX2_dropOldest yX2_dropOldest, Cond.initialized RX2, Cond.code yX2_dropOldest cX2_dropOldest 3 none, Cond.methodLink RX2 25 yX2_at, Cond.instanceMethod yX2_at, Cond.selects RX2 yX2_at yX2_at, Cond.code yX2_at cX2_at 2 (some (.object "LentSounds$State")), Cond.methodLink RX2 29 yX5_copyFrom, Cond.instanceMethod yX5_copyFrom, Cond.selects RX5 yX5_copyFrom yX5_copyFrom, Cond.initialized RX5, Cond.code yX5_copyFrom cX5_copyFrom 2 none, Cond.fieldLink RX5 14 "LentSounds$State" "soundShelves" "LLentSounds$Row;", Cond.fieldLink RX5 20 "LentSounds$State" "charges" "LLentSounds$Row;", Cond.fieldLink RX5 23 "LentSounds$State" "loudness" "LLentSounds$Row;", Cond.fieldLink RX5 26 "LentSounds$State" "handShelves" "LLentSounds$Row;", Cond.fieldLink RX5 32 "LentSounds$State" "cues" "LLentSounds$CueList;", Cond.fieldLink RX5 36 "LentSounds$State" "hands" "I", Cond.fieldLink RX5 40 "LentSounds$State" "carrying" "I", Cond.fieldLink RX5 43 "LentSounds$State" "takes" "I"]
def wsX2_record_r2 : List Cond := [Cond.fieldLink RX5 46 "LentSounds$State" "playedCues" "I", Cond.fieldLink RX5 49 "LentSounds$State" "missedCues" "I", Cond.fieldLink RX5 52 "LentSounds$State" "missedByEar" "I", Cond.methodLink RX5 59 yX4_copyFrom, Cond.instanceMethod yX4_copyFrom, Cond.selects RX4 yX4_copyFrom yX4_copyFrom, Cond.initialized RX4, Cond.code yX4_copyFrom cX4_copyFrom 3 none, Cond.fieldLink RX4 13 "LentSounds$Row" "cells" "[I", Cond.methodLink RX4 27 Lib.Math.min.name, Cond.static Lib.Math.min.name, Cond.initialized "java/lang/Math", Cond.code Lib.Math.min.name Lib.Math.min.code 2 (some .int), Cond.methodLink RX4 30 arraycopyName, Cond.native arraycopyName, Cond.static arraycopyName, Cond.initialized "java/lang/System", Cond.methodLink RX5 63 yX0_copyFrom, Cond.instanceMethod yX0_copyFrom, Cond.selects RX0 yX0_copyFrom yX0_copyFrom, Cond.initialized RX0, Cond.code yX0_copyFrom cX0_copyFrom 2 none, Cond.fieldLink RX0 23 "LentSounds$CueList" "ticks" "LLentSounds$Row;", Cond.fieldLink RX0 27 "LentSounds$CueList" "scenes" "LLentSounds$Row;"]
def wsX2_record_r3 : List Cond := [Cond.fieldLink RX0 30 "LentSounds$CueList" "sounds" "LLentSounds$Row;", Cond.fieldLink RX0 33 "LentSounds$CueList" "lengths" "LLentSounds$Row;", Cond.fieldLink RX0 9 "LentSounds$CueList" "size" "I", Cond.fieldLink RX0 15 "LentSounds$CueList" "capacity" "I", Cond.methodLink RX0 40 Lib.Math.min.name, Cond.methodLink RX0 36 yX4_copyFrom]
def wsX2_record : List Cond := .code yX2_record cX2_record 3 none :: ((wsX2_record_r1 ++ (wsX2_record_r2 ++ wsX2_record_r3)) ++ wsX20 ++ wsX50 ++ wsX40 ++ wsX00)
def wsX2_moveLatestTo_r1 : List Cond := [Cond.fieldLink RX2 17 "LentSounds$History" "size" "I", Cond.methodLink RX2 25 yX2_at, Cond.instanceMethod yX2_at, Cond.selects RX2 yX2_at yX2_at, Cond.initialized RX2, Cond.code yX2_at cX2_at 2 (some (.object "LentSounds$State")), Cond.fieldLink RX2 11 "LentSounds$History" "states" "[LLentSounds$State;", Cond.methodLink RX2 29 yX5_copyFrom, Cond.instanceMethod yX5_copyFrom, Cond.selects RX5 yX5_copyFrom yX5_copyFrom, Cond.initialized RX5, Cond.code yX5_copyFrom cX5_copyFrom 2 none, Cond.fieldLink RX5 14 "LentSounds$State" "soundShelves" "LLentSounds$Row;", Cond.fieldLink RX5 20 "LentSounds$State" "charges" "LLentSounds$Row;", Cond.fieldLink RX5 23 "LentSounds$State" "loudness" "LLentSounds$Row;", Cond.fieldLink RX5 26 "LentSounds$State" "handShelves" "LLentSounds$Row;", Cond.fieldLink RX5 32 "LentSounds$State" "cues" "LLentSounds$CueList;", Cond.fieldLink RX5 36 "LentSounds$State" "hands" "I", Cond.fieldLink RX5 40 "LentSounds$State" "carrying" "I", Cond.fieldLink RX5 43 "LentSounds$State" "takes" "I", Cond.fieldLink RX5 46 "LentSounds$State" "playedCues" "I", Cond.fieldLink RX5 49 "LentSounds$State" "missedCues" "I", Cond.fieldLink RX5 52 "LentSounds$State" "missedByEar" "I", Cond.methodLink RX5 59 yX4_copyFrom]
def wsX2_moveLatestTo_r2 : List Cond := [Cond.instanceMethod yX4_copyFrom, Cond.selects RX4 yX4_copyFrom yX4_copyFrom, Cond.initialized RX4, Cond.code yX4_copyFrom cX4_copyFrom 3 none, Cond.fieldLink RX4 13 "LentSounds$Row" "cells" "[I", Cond.methodLink RX4 27 Lib.Math.min.name, Cond.static Lib.Math.min.name, Cond.initialized "java/lang/Math", Cond.code Lib.Math.min.name Lib.Math.min.code 2 (some .int), Cond.methodLink RX4 30 arraycopyName, Cond.native arraycopyName, Cond.static arraycopyName, Cond.initialized "java/lang/System", Cond.methodLink RX5 63 yX0_copyFrom, Cond.instanceMethod yX0_copyFrom, Cond.selects RX0 yX0_copyFrom yX0_copyFrom, Cond.initialized RX0, Cond.code yX0_copyFrom cX0_copyFrom 2 none, Cond.fieldLink RX0 23 "LentSounds$CueList" "ticks" "LLentSounds$Row;", Cond.fieldLink RX0 27 "LentSounds$CueList" "scenes" "LLentSounds$Row;", Cond.fieldLink RX0 30 "LentSounds$CueList" "sounds" "LLentSounds$Row;", Cond.fieldLink RX0 33 "LentSounds$CueList" "lengths" "LLentSounds$Row;", Cond.fieldLink RX0 9 "LentSounds$CueList" "size" "I", Cond.fieldLink RX0 15 "LentSounds$CueList" "capacity" "I"]
def wsX2_moveLatestTo_r3 : List Cond := [Cond.methodLink RX0 40 Lib.Math.min.name, Cond.methodLink RX0 36 yX4_copyFrom]
def wsX2_moveLatestTo : List Cond := .code yX2_moveLatestTo cX2_moveLatestTo 3 none :: ((wsX2_moveLatestTo_r1 ++ (wsX2_moveLatestTo_r2 ++ wsX2_moveLatestTo_r3)) ++ wsX20 ++ wsX50 ++ wsX40 ++ wsX00)
def wsX3_init_r1 : List Cond := [Cond.methodLink RX3 3 objectInit, Cond.instanceMethod objectInit, Cond.code objectInit ⟨#[0xb1]⟩ 1 none, Cond.classLink RX3 9 RX4, Cond.instantiable RX4 1, Cond.initialized RX4, Cond.fieldLink RX3 14 "LentSounds$Rehearsal" "charges" "LLentSounds$Row;", Cond.fieldLink RX3 20 "LentSounds$Rehearsal" "latestScenes" "LLentSounds$Row;", Cond.fieldLink RX3 23 "LentSounds$Rehearsal" "latestEnds" "LLentSounds$Row;", Cond.fieldLink RX3 26 "LentSounds$Rehearsal" "handShelves" "LLentSounds$Row;", Cond.fieldLink RX3 29 "LentSounds$Rehearsal" "freeFrom" "LLentSounds$Row;", Cond.fieldLink RX3 32 "LentSounds$Rehearsal" "handPlays" "LLentSounds$Row;", Cond.fieldLink RX3 35 "LentSounds$Rehearsal" "handWays" "LLentSounds$Row;", Cond.fieldLink RX3 38 "LentSounds$Rehearsal" "players" "LLentSounds$Row;", Cond.fieldLink RX3 41 "LentSounds$Rehearsal" "reasons" "LLentSounds$Row;", Cond.fieldLink RX3 44 "LentSounds$Rehearsal" "ways" "LLentSounds$Row;", Cond.fieldLink RX3 47 "LentSounds$Rehearsal" "sceneMisses" "LLentSounds$Row;", Cond.fieldLink RX3 50 "LentSounds$Rehearsal" "sceneLoans" "LLentSounds$Row;", Cond.fieldLink RX3 53 "LentSounds$Rehearsal" "hands" "I", Cond.fieldLink RX3 57 "LentSounds$Rehearsal" "missedCues" "I", Cond.fieldLink RX3 60 "LentSounds$Rehearsal" "missedByEar" "I", Cond.methodLink RX3 11 yX4_init, Cond.instanceMethod yX4_init, Cond.code yX4_init cX4_init 2 none]
def wsX3_init_r2 : List Cond := [Cond.methodLink RX4 1 objectInit, Cond.methodLink RX4 7 Lib.Math.max.name, Cond.static Lib.Math.max.name, Cond.initialized "java/lang/Math", Cond.code Lib.Math.max.name Lib.Math.max.code 2 (some .int), Cond.arrayClass .int, Cond.fieldLink RX4 13 "LentSounds$Row" "cells" "[I"]
def wsX3_init : List Cond := .code yX3_init cX3_init 1 none :: ((wsX3_init_r1 ++ wsX3_init_r2) ++ wsX40 ++ wsX30)
def wsX3_begin_r1 : List Cond := [Cond.fieldLink RX3 53 "LentSounds$Rehearsal" "hands" "I", Cond.fieldLink RX3 14 "LentSounds$Rehearsal" "charges" "LLentSounds$Row;", Cond.fieldLink RX3 26 "LentSounds$Rehearsal" "handShelves" "LLentSounds$Row;", Cond.methodLink RX3 66 yX4_copyFrom, Cond.instanceMethod yX4_copyFrom, Cond.selects RX4 yX4_copyFrom yX4_copyFrom, Cond.initialized RX4, Cond.code yX4_copyFrom cX4_copyFrom 3 none, Cond.fieldLink RX4 13 "LentSounds$Row" "cells" "[I", Cond.methodLink RX4 27 Lib.Math.min.name, Cond.static Lib.Math.min.name, Cond.initialized "java/lang/Math", Cond.code Lib.Math.min.name Lib.Math.min.code 2 (some .int), Cond.methodLink RX4 30 arraycopyName, Cond.native arraycopyName, Cond.static arraycopyName, Cond.initialized "java/lang/System", Cond.methodLink RX3 72 yX4_get, Cond.instanceMethod yX4_get, Cond.selects RX4 yX4_get yX4_get, Cond.code yX4_get cX4_get 2 (some .int), Cond.methodLink RX3 76 yX4_put, Cond.instanceMethod yX4_put, Cond.selects RX4 yX4_put yX4_put]
def wsX3_begin_r2 : List Cond := [Cond.code yX4_put cX4_put 3 none]
def wsX3_begin : List Cond := .code yX3_begin cX3_begin 5 none :: ((wsX3_begin_r1 ++ wsX3_begin_r2) ++ wsX30 ++ wsX50 ++ wsX40)
def wsX4_fill : List Cond := .code yX4_fill cX4_fill 3 none :: ([.fieldLink RX4 13 "LentSounds$Row" "cells" "[I"] ++ wsX40)
def wsX3_wayTo : List Cond := .code yX3_wayTo cX3_wayTo 3 (some .int) :: ([.fieldLink RX3 26 "LentSounds$Rehearsal" "handShelves" "LLentSounds$Row;", .methodLink RX3 133 Lib.Math.abs.name, .static Lib.Math.abs.name, .initialized "java/lang/Math", .code Lib.Math.abs.name Lib.Math.abs.code 1 (some .int), .methodLink RX3 72 yX4_get, .instanceMethod yX4_get, .selects RX4 yX4_get yX4_get, .initialized RX4, .code yX4_get cX4_get 2 (some .int), .fieldLink RX4 13 "LentSounds$Row" "cells" "[I"] ++ wsX30 ++ wsX40)
def wsX3_nearestHand : List Cond := .code yX3_nearestHand cX3_nearestHand 7 (some .int) :: ([.fieldLink RX3 53 "LentSounds$Rehearsal" "hands" "I", .fieldLink RX3 29 "LentSounds$Rehearsal" "freeFrom" "LLentSounds$Row;", .methodLink RX3 130 yX3_wayTo, .instanceMethod yX3_wayTo, .selects RX3 yX3_wayTo yX3_wayTo, .initialized RX3, .code yX3_wayTo cX3_wayTo 3 (some .int), .fieldLink RX3 26 "LentSounds$Rehearsal" "handShelves" "LLentSounds$Row;", .methodLink RX3 133 Lib.Math.abs.name, .static Lib.Math.abs.name, .initialized "java/lang/Math", .code Lib.Math.abs.name Lib.Math.abs.code 1 (some .int), .methodLink RX3 72 yX4_get, .instanceMethod yX4_get, .selects RX4 yX4_get yX4_get, .initialized RX4, .code yX4_get cX4_get 2 (some .int), .fieldLink RX4 13 "LentSounds$Row" "cells" "[I"] ++ wsX30 ++ wsX40)
def wsX3_isLent : List Cond := .code yX3_isLent cX3_isLent 4 (some .boolean) :: ([.fieldLink RX3 20 "LentSounds$Rehearsal" "latestScenes" "LLentSounds$Row;", .methodLink RX3 72 yX4_get, .instanceMethod yX4_get, .selects RX4 yX4_get yX4_get, .initialized RX4, .code yX4_get cX4_get 2 (some .int), .fieldLink RX4 13 "LentSounds$Row" "cells" "[I"] ++ wsX30 ++ wsX40)
def wsX3_reasonToMiss : List Cond := .code yX3_reasonToMiss cX3_reasonToMiss 7 (some .int) :: ([.fieldLink RX3 14 "LentSounds$Rehearsal" "charges" "LLentSounds$Row;", .fieldLink RX3 23 "LentSounds$Rehearsal" "latestEnds" "LLentSounds$Row;", .methodLink RX3 72 yX4_get, .instanceMethod yX4_get, .selects RX4 yX4_get yX4_get, .initialized RX4, .code yX4_get cX4_get 2 (some .int), .fieldLink RX4 13 "LentSounds$Row" "cells" "[I", .methodLink RX3 123 yX3_isLent, .instanceMethod yX3_isLent, .selects RX3 yX3_isLent yX3_isLent, .initialized RX3, .code yX3_isLent cX3_isLent 4 (some .boolean), .fieldLink RX3 20 "LentSounds$Rehearsal" "latestScenes" "LLentSounds$Row;"] ++ wsX50 ++ wsX00 ++ wsX30 ++ wsX40)
def wsX3_play_r1 : List Cond := [Cond.fieldLink RX3 50 "LentSounds$Rehearsal" "sceneLoans" "LLentSounds$Row;", Cond.fieldLink RX3 38 "LentSounds$Rehearsal" "players" "LLentSounds$Row;", Cond.fieldLink RX3 44 "LentSounds$Rehearsal" "ways" "LLentSounds$Row;", Cond.fieldLink RX3 32 "LentSounds$Rehearsal" "handPlays" "LLentSounds$Row;", Cond.fieldLink RX3 35 "LentSounds$Rehearsal" "handWays" "LLentSounds$Row;", Cond.fieldLink RX3 26 "LentSounds$Rehearsal" "handShelves" "LLentSounds$Row;", Cond.fieldLink RX3 29 "LentSounds$Rehearsal" "freeFrom" "LLentSounds$Row;", Cond.fieldLink RX3 14 "LentSounds$Rehearsal" "charges" "LLentSounds$Row;", Cond.fieldLink RX3 20 "LentSounds$Rehearsal" "latestScenes" "LLentSounds$Row;", Cond.fieldLink RX3 23 "LentSounds$Rehearsal" "latestEnds" "LLentSounds$Row;", Cond.methodLink RX3 72 yX4_get, Cond.instanceMethod yX4_get, Cond.selects RX4 yX4_get yX4_get, Cond.initialized RX4, Cond.code yX4_get cX4_get 2 (some .int), Cond.fieldLink RX4 13 "LentSounds$Row" "cells" "[I", Cond.methodLink RX3 130 yX3_wayTo, Cond.instanceMethod yX3_wayTo, Cond.selects RX3 yX3_wayTo yX3_wayTo, Cond.initialized RX3, Cond.code yX3_wayTo cX3_wayTo 3 (some .int), Cond.methodLink RX3 133 Lib.Math.abs.name, Cond.static Lib.Math.abs.name, Cond.initialized "java/lang/Math"]
def wsX3_play_r2 : List Cond := [Cond.code Lib.Math.abs.name Lib.Math.abs.code 1 (some .int), Cond.methodLink RX3 123 yX3_isLent, Cond.instanceMethod yX3_isLent, Cond.selects RX3 yX3_isLent yX3_isLent, Cond.code yX3_isLent cX3_isLent 4 (some .boolean), Cond.methodLink RX3 138 yX4_increase, Cond.instanceMethod yX4_increase, Cond.selects RX4 yX4_increase yX4_increase, Cond.code yX4_increase cX4_increase 3 none, Cond.methodLink RX4 19 yX4_get, Cond.methodLink RX4 23 yX4_put, Cond.instanceMethod yX4_put, Cond.selects RX4 yX4_put yX4_put, Cond.code yX4_put cX4_put 3 none, Cond.methodLink RX3 76 yX4_put, Cond.methodLink RX3 141 yX0_endOf, Cond.instanceMethod yX0_endOf, Cond.selects RX0 yX0_endOf yX0_endOf, Cond.initialized RX0, Cond.code yX0_endOf cX0_endOf 2 (some .int), Cond.fieldLink RX0 23 "LentSounds$CueList" "ticks" "LLentSounds$Row;", Cond.fieldLink RX0 33 "LentSounds$CueList" "lengths" "LLentSounds$Row;", Cond.methodLink RX0 46 yX4_get]
def wsX3_play : List Cond := .code yX3_play cX3_play 8 none :: ((wsX3_play_r1 ++ wsX3_play_r2) ++ wsX00 ++ wsX30 ++ wsX40)
def wsX3_miss : List Cond := .code yX3_miss cX3_miss 3 none :: ([.fieldLink RX3 38 "LentSounds$Rehearsal" "players" "LLentSounds$Row;", .fieldLink RX3 44 "LentSounds$Rehearsal" "ways" "LLentSounds$Row;", .fieldLink RX3 47 "LentSounds$Rehearsal" "sceneMisses" "LLentSounds$Row;", .fieldLink RX3 57 "LentSounds$Rehearsal" "missedCues" "I", .fieldLink RX3 60 "LentSounds$Rehearsal" "missedByEar" "I", .methodLink RX3 76 yX4_put, .instanceMethod yX4_put, .selects RX4 yX4_put yX4_put, .initialized RX4, .code yX4_put cX4_put 3 none, .fieldLink RX4 13 "LentSounds$Row" "cells" "[I", .methodLink RX3 72 yX4_get, .instanceMethod yX4_get, .selects RX4 yX4_get yX4_get, .code yX4_get cX4_get 2 (some .int), .methodLink RX3 138 yX4_increase, .instanceMethod yX4_increase, .selects RX4 yX4_increase yX4_increase, .code yX4_increase cX4_increase 3 none, .methodLink RX4 19 yX4_get, .methodLink RX4 23 yX4_put] ++ wsX30 ++ wsX50 ++ wsX00 ++ wsX40)
def wsX3_doCue_r1 : List Cond := [Cond.fieldLink RX3 41 "LentSounds$Rehearsal" "reasons" "LLentSounds$Row;", Cond.methodLink RX3 72 yX4_get, Cond.instanceMethod yX4_get, Cond.selects RX4 yX4_get yX4_get, Cond.initialized RX4, Cond.code yX4_get cX4_get 2 (some .int), Cond.fieldLink RX4 13 "LentSounds$Row" "cells" "[I", Cond.methodLink RX3 105 yX3_nearestHand, Cond.instanceMethod yX3_nearestHand, Cond.selects RX3 yX3_nearestHand yX3_nearestHand, Cond.initialized RX3, Cond.code yX3_nearestHand cX3_nearestHand 7 (some .int), Cond.fieldLink RX3 53 "LentSounds$Rehearsal" "hands" "I", Cond.fieldLink RX3 29 "LentSounds$Rehearsal" "freeFrom" "LLentSounds$Row;", Cond.methodLink RX3 130 yX3_wayTo, Cond.instanceMethod yX3_wayTo, Cond.selects RX3 yX3_wayTo yX3_wayTo, Cond.code yX3_wayTo cX3_wayTo 3 (some .int), Cond.fieldLink RX3 26 "LentSounds$Rehearsal" "handShelves" "LLentSounds$Row;", Cond.methodLink RX3 133 Lib.Math.abs.name, Cond.static Lib.Math.abs.name, Cond.initialized "java/lang/Math", Cond.code Lib.Math.abs.name Lib.Math.abs.code 1 (some .int), Cond.methodLink RX3 109 yX3_reasonToMiss]
def wsX3_doCue_r2 : List Cond := [Cond.instanceMethod yX3_reasonToMiss, Cond.selects RX3 yX3_reasonToMiss yX3_reasonToMiss, Cond.code yX3_reasonToMiss cX3_reasonToMiss 7 (some .int), Cond.fieldLink RX3 14 "LentSounds$Rehearsal" "charges" "LLentSounds$Row;", Cond.fieldLink RX3 23 "LentSounds$Rehearsal" "latestEnds" "LLentSounds$Row;", Cond.methodLink RX3 123 yX3_isLent, Cond.instanceMethod yX3_isLent, Cond.selects RX3 yX3_isLent yX3_isLent, Cond.code yX3_isLent cX3_isLent 4 (some .boolean), Cond.fieldLink RX3 20 "LentSounds$Rehearsal" "latestScenes" "LLentSounds$Row;", Cond.methodLink RX3 76 yX4_put, Cond.instanceMethod yX4_put, Cond.selects RX4 yX4_put yX4_put, Cond.code yX4_put cX4_put 3 none, Cond.methodLink RX3 113 yX3_play, Cond.instanceMethod yX3_play, Cond.selects RX3 yX3_play yX3_play, Cond.code yX3_play cX3_play 8 none, Cond.fieldLink RX3 50 "LentSounds$Rehearsal" "sceneLoans" "LLentSounds$Row;", Cond.fieldLink RX3 38 "LentSounds$Rehearsal" "players" "LLentSounds$Row;", Cond.fieldLink RX3 44 "LentSounds$Rehearsal" "ways" "LLentSounds$Row;", Cond.fieldLink RX3 32 "LentSounds$Rehearsal" "handPlays" "LLentSounds$Row;", Cond.fieldLink RX3 35 "LentSounds$Rehearsal" "handWays" "LLentSounds$Row;", Cond.methodLink RX3 138 yX4_increase]
def wsX3_doCue_r3 : List Cond := [Cond.instanceMethod yX4_increase, Cond.selects RX4 yX4_increase yX4_increase, Cond.code yX4_increase cX4_increase 3 none, Cond.methodLink RX4 19 yX4_get, Cond.methodLink RX4 23 yX4_put, Cond.methodLink RX3 141 yX0_endOf, Cond.instanceMethod yX0_endOf, Cond.selects RX0 yX0_endOf yX0_endOf, Cond.initialized RX0, Cond.code yX0_endOf cX0_endOf 2 (some .int), Cond.fieldLink RX0 23 "LentSounds$CueList" "ticks" "LLentSounds$Row;", Cond.fieldLink RX0 33 "LentSounds$CueList" "lengths" "LLentSounds$Row;", Cond.methodLink RX0 46 yX4_get, Cond.methodLink RX3 117 yX3_miss, Cond.instanceMethod yX3_miss, Cond.selects RX3 yX3_miss yX3_miss, Cond.code yX3_miss cX3_miss 3 none, Cond.fieldLink RX3 47 "LentSounds$Rehearsal" "sceneMisses" "LLentSounds$Row;", Cond.fieldLink RX3 57 "LentSounds$Rehearsal" "missedCues" "I", Cond.fieldLink RX3 60 "LentSounds$Rehearsal" "missedByEar" "I"]
def wsX3_doCue : List Cond := .code yX3_doCue cX3_doCue 6 none :: ((wsX3_doCue_r1 ++ (wsX3_doCue_r2 ++ wsX3_doCue_r3)) ++ wsX50 ++ wsX00 ++ wsX30 ++ wsX40)
def wsX3_playTake_r1 : List Cond := [Cond.fieldLink RX3 20 "LentSounds$Rehearsal" "latestScenes" "LLentSounds$Row;", Cond.fieldLink RX3 23 "LentSounds$Rehearsal" "latestEnds" "LLentSounds$Row;", Cond.fieldLink RX3 29 "LentSounds$Rehearsal" "freeFrom" "LLentSounds$Row;", Cond.fieldLink RX3 32 "LentSounds$Rehearsal" "handPlays" "LLentSounds$Row;", Cond.fieldLink RX3 35 "LentSounds$Rehearsal" "handWays" "LLentSounds$Row;", Cond.fieldLink RX3 47 "LentSounds$Rehearsal" "sceneMisses" "LLentSounds$Row;", Cond.fieldLink RX3 50 "LentSounds$Rehearsal" "sceneLoans" "LLentSounds$Row;", Cond.fieldLink RX3 57 "LentSounds$Rehearsal" "missedCues" "I", Cond.fieldLink RX3 60 "LentSounds$Rehearsal" "missedByEar" "I", Cond.methodLink RX3 80 yX4_fill, Cond.instanceMethod yX4_fill, Cond.selects RX4 yX4_fill yX4_fill, Cond.initialized RX4, Cond.code yX4_fill cX4_fill 3 none, Cond.fieldLink RX4 13 "LentSounds$Row" "cells" "[I", Cond.methodLink RX3 92 yX3_doCue, Cond.instanceMethod yX3_doCue, Cond.selects RX3 yX3_doCue yX3_doCue, Cond.initialized RX3, Cond.code yX3_doCue cX3_doCue 6 none, Cond.fieldLink RX3 41 "LentSounds$Rehearsal" "reasons" "LLentSounds$Row;", Cond.methodLink RX3 72 yX4_get, Cond.instanceMethod yX4_get, Cond.selects RX4 yX4_get yX4_get]
def wsX3_playTake_r2 : List Cond := [Cond.code yX4_get cX4_get 2 (some .int), Cond.methodLink RX3 105 yX3_nearestHand, Cond.instanceMethod yX3_nearestHand, Cond.selects RX3 yX3_nearestHand yX3_nearestHand, Cond.code yX3_nearestHand cX3_nearestHand 7 (some .int), Cond.fieldLink RX3 53 "LentSounds$Rehearsal" "hands" "I", Cond.methodLink RX3 130 yX3_wayTo, Cond.instanceMethod yX3_wayTo, Cond.selects RX3 yX3_wayTo yX3_wayTo, Cond.code yX3_wayTo cX3_wayTo 3 (some .int), Cond.fieldLink RX3 26 "LentSounds$Rehearsal" "handShelves" "LLentSounds$Row;", Cond.methodLink RX3 133 Lib.Math.abs.name, Cond.static Lib.Math.abs.name, Cond.initialized "java/lang/Math", Cond.code Lib.Math.abs.name Lib.Math.abs.code 1 (some .int), Cond.methodLink RX3 109 yX3_reasonToMiss, Cond.instanceMethod yX3_reasonToMiss, Cond.selects RX3 yX3_reasonToMiss yX3_reasonToMiss, Cond.code yX3_reasonToMiss cX3_reasonToMiss 7 (some .int), Cond.fieldLink RX3 14 "LentSounds$Rehearsal" "charges" "LLentSounds$Row;", Cond.methodLink RX3 123 yX3_isLent, Cond.instanceMethod yX3_isLent, Cond.selects RX3 yX3_isLent yX3_isLent, Cond.code yX3_isLent cX3_isLent 4 (some .boolean)]
def wsX3_playTake_r3 : List Cond := [Cond.methodLink RX3 76 yX4_put, Cond.instanceMethod yX4_put, Cond.selects RX4 yX4_put yX4_put, Cond.code yX4_put cX4_put 3 none, Cond.methodLink RX3 113 yX3_play, Cond.instanceMethod yX3_play, Cond.selects RX3 yX3_play yX3_play, Cond.code yX3_play cX3_play 8 none, Cond.fieldLink RX3 38 "LentSounds$Rehearsal" "players" "LLentSounds$Row;", Cond.fieldLink RX3 44 "LentSounds$Rehearsal" "ways" "LLentSounds$Row;", Cond.methodLink RX3 138 yX4_increase, Cond.instanceMethod yX4_increase, Cond.selects RX4 yX4_increase yX4_increase, Cond.code yX4_increase cX4_increase 3 none, Cond.methodLink RX4 19 yX4_get, Cond.methodLink RX4 23 yX4_put, Cond.methodLink RX3 141 yX0_endOf, Cond.instanceMethod yX0_endOf, Cond.selects RX0 yX0_endOf yX0_endOf, Cond.initialized RX0, Cond.code yX0_endOf cX0_endOf 2 (some .int), Cond.fieldLink RX0 23 "LentSounds$CueList" "ticks" "LLentSounds$Row;", Cond.fieldLink RX0 33 "LentSounds$CueList" "lengths" "LLentSounds$Row;", Cond.methodLink RX0 46 yX4_get]
def wsX3_playTake_r4 : List Cond := [Cond.methodLink RX3 117 yX3_miss, Cond.instanceMethod yX3_miss, Cond.selects RX3 yX3_miss yX3_miss, Cond.code yX3_miss cX3_miss 3 none]
def wsX3_playTake : List Cond := .code yX3_playTake cX3_playTake 3 none :: ((wsX3_playTake_r1 ++ (wsX3_playTake_r2 ++ (wsX3_playTake_r3 ++ wsX3_playTake_r4))) ++ wsX30 ++ wsX50 ++ wsX00 ++ wsX40)
def wsX3_playsOfSound : List Cond := .code yX3_playsOfSound cX3_playsOfSound 5 (some .int) :: ([.fieldLink RX3 41 "LentSounds$Rehearsal" "reasons" "LLentSounds$Row;", .methodLink RX3 72 yX4_get, .instanceMethod yX4_get, .selects RX4 yX4_get yX4_get, .initialized RX4, .code yX4_get cX4_get 2 (some .int), .fieldLink RX4 13 "LentSounds$Row" "cells" "[I"] ++ wsX00 ++ wsX30 ++ wsX40)
def wsX3_missedCue : List Cond := .code yX3_missedCue cX3_missedCue 5 (some .int) :: ([.fieldLink RX3 41 "LentSounds$Rehearsal" "reasons" "LLentSounds$Row;", .methodLink RX3 72 yX4_get, .instanceMethod yX4_get, .selects RX4 yX4_get yX4_get, .initialized RX4, .code yX4_get cX4_get 2 (some .int), .fieldLink RX4 13 "LentSounds$Row" "cells" "[I"] ++ wsX30 ++ wsX40)
def wsX4_sum : List Cond := .code yX4_sum cX4_sum 3 (some .int) :: ([.fieldLink RX4 13 "LentSounds$Row" "cells" "[I"] ++ wsX40)
def wsX5_soundRow : List Cond := .code yX5_soundRow cX5_soundRow 2 (some (.object "LentSounds$Row")) :: ([.fieldLink RX5 14 "LentSounds$State" "soundShelves" "LLentSounds$Row;", .fieldLink RX5 20 "LentSounds$State" "charges" "LLentSounds$Row;", .fieldLink RX5 23 "LentSounds$State" "loudness" "LLentSounds$Row;"] ++ wsX50)
def wsX6_init : List Cond := .code yX6_init cX6_init 1 none :: ([.methodLink RX6 3 objectInit, .instanceMethod objectInit, .code objectInit ⟨#[0xb1]⟩ 1 none, .classLink RX6 9 RX4, .instantiable RX4 1, .initialized RX4, .fieldLink RX6 14 "LentSounds$Text" "characters" "LLentSounds$Row;", .fieldLink RX6 20 "LentSounds$Text" "length" "I", .methodLink RX6 11 yX4_init, .instanceMethod yX4_init, .code yX4_init cX4_init 2 none, .methodLink RX4 1 objectInit, .methodLink RX4 7 Lib.Math.max.name, .static Lib.Math.max.name, .initialized "java/lang/Math", .code Lib.Math.max.name Lib.Math.max.code 2 (some .int), .arrayClass .int, .fieldLink RX4 13 "LentSounds$Row" "cells" "[I"] ++ wsX40 ++ wsX60)
def wsX6_append : List Cond := .code yX6_append cX6_append 2 none :: ([.fieldLink RX6 20 "LentSounds$Text" "length" "I", .fieldLink RX6 14 "LentSounds$Text" "characters" "LLentSounds$Row;", .methodLink RX6 24 yX4_put, .instanceMethod yX4_put, .selects RX4 yX4_put yX4_put, .initialized RX4, .code yX4_put cX4_put 3 none, .fieldLink RX4 13 "LentSounds$Row" "cells" "[I"] ++ wsX60 ++ wsX40)
def wsX7_init_r1 : List Cond := [Cond.methodLink RX7 1 objectInit, Cond.instanceMethod objectInit, Cond.code objectInit ⟨#[0xb1]⟩ 1 none, Cond.classLink RX7 7 RX5, Cond.instantiable RX5 11, Cond.initialized RX5, Cond.fieldLink RX7 10 "LentSounds" "now" "LLentSounds$State;", Cond.fieldLink RX7 16 "LentSounds" "snapshot" "LLentSounds$State;", Cond.classLink RX7 19 RX2, Cond.instantiable RX2 2, Cond.initialized RX2, Cond.fieldLink RX7 22 "LentSounds" "history" "LLentSounds$History;", Cond.classLink RX7 26 RX6, Cond.instantiable RX6 2, Cond.initialized RX6, Cond.fieldLink RX7 29 "LentSounds" "text" "LLentSounds$Text;", Cond.classLink RX7 33 RX1, Cond.instantiable RX1 4, Cond.initialized RX1, Cond.fieldLink RX7 36 "LentSounds" "reader" "LLentSounds$CueReader;", Cond.classLink RX7 40 RX3, Cond.instantiable RX3 15, Cond.initialized RX3, Cond.fieldLink RX7 43 "LentSounds" "rehearsal" "LLentSounds$Rehearsal;"]
def wsX7_init_r2 : List Cond := [Cond.fieldLink RX7 47 "LentSounds" "hasSnapshot" "Z", Cond.methodLink RX7 9 yX5_init, Cond.instanceMethod yX5_init, Cond.code yX5_init cX5_init 2 none, Cond.methodLink RX5 3 objectInit, Cond.classLink RX5 9 RX4, Cond.instantiable RX4 1, Cond.initialized RX4, Cond.fieldLink RX5 14 "LentSounds$State" "soundShelves" "LLentSounds$Row;", Cond.fieldLink RX5 20 "LentSounds$State" "charges" "LLentSounds$Row;", Cond.fieldLink RX5 23 "LentSounds$State" "loudness" "LLentSounds$Row;", Cond.fieldLink RX5 26 "LentSounds$State" "handShelves" "LLentSounds$Row;", Cond.classLink RX5 29 RX0, Cond.instantiable RX0 6, Cond.initialized RX0, Cond.fieldLink RX5 32 "LentSounds$State" "cues" "LLentSounds$CueList;", Cond.fieldLink RX5 36 "LentSounds$State" "hands" "I", Cond.fieldLink RX5 40 "LentSounds$State" "carrying" "I", Cond.fieldLink RX5 43 "LentSounds$State" "takes" "I", Cond.fieldLink RX5 46 "LentSounds$State" "playedCues" "I", Cond.fieldLink RX5 49 "LentSounds$State" "missedCues" "I", Cond.fieldLink RX5 52 "LentSounds$State" "missedByEar" "I", Cond.methodLink RX5 11 yX4_init, Cond.instanceMethod yX4_init]
def wsX7_init_r3 : List Cond := [Cond.code yX4_init cX4_init 2 none, Cond.methodLink RX4 1 objectInit, Cond.methodLink RX4 7 Lib.Math.max.name, Cond.static Lib.Math.max.name, Cond.initialized "java/lang/Math", Cond.code Lib.Math.max.name Lib.Math.max.code 2 (some .int), Cond.arrayClass .int, Cond.fieldLink RX4 13 "LentSounds$Row" "cells" "[I", Cond.methodLink RX5 31 yX0_init, Cond.instanceMethod yX0_init, Cond.code yX0_init cX0_init 2 none, Cond.methodLink RX0 3 objectInit, Cond.fieldLink RX0 9 "LentSounds$CueList" "size" "I", Cond.fieldLink RX0 15 "LentSounds$CueList" "capacity" "I", Cond.classLink RX0 18 RX4, Cond.fieldLink RX0 23 "LentSounds$CueList" "ticks" "LLentSounds$Row;", Cond.fieldLink RX0 27 "LentSounds$CueList" "scenes" "LLentSounds$Row;", Cond.fieldLink RX0 30 "LentSounds$CueList" "sounds" "LLentSounds$Row;", Cond.fieldLink RX0 33 "LentSounds$CueList" "lengths" "LLentSounds$Row;", Cond.methodLink RX0 20 yX4_init, Cond.methodLink RX5 55 yX4_put, Cond.instanceMethod yX4_put, Cond.selects RX4 yX4_put yX4_put, Cond.code yX4_put cX4_put 3 none]
def wsX7_init_r4 : List Cond := [Cond.methodLink RX7 21 yX2_init, Cond.instanceMethod yX2_init, Cond.code yX2_init cX2_init 2 none, Cond.methodLink RX2 3 objectInit, Cond.classLink RX2 9 RX5, Cond.fieldLink RX2 11 "LentSounds$History" "states" "[LLentSounds$State;", Cond.fieldLink RX2 17 "LentSounds$History" "size" "I", Cond.methodLink RX2 21 yX5_init, Cond.instanceMethod yX6_init, Cond.code yX6_init cX6_init 1 none, Cond.methodLink RX6 3 objectInit, Cond.classLink RX6 9 RX4, Cond.fieldLink RX6 14 "LentSounds$Text" "characters" "LLentSounds$Row;", Cond.fieldLink RX6 20 "LentSounds$Text" "length" "I", Cond.methodLink RX6 11 yX4_init, Cond.instanceMethod yX1_init, Cond.code yX1_init cX1_init 1 none, Cond.methodLink RX1 3 objectInit, Cond.classLink RX1 9 RX0, Cond.fieldLink RX1 14 "LentSounds$CueReader" "drafts" "LLentSounds$CueList;", Cond.fieldLink RX1 20 "LentSounds$CueReader" "position" "I", Cond.fieldLink RX1 24 "LentSounds$CueReader" "faulty" "Z", Cond.fieldLink RX1 28 "LentSounds$CueReader" "foundTwice" "Z", Cond.methodLink RX1 11 yX0_init]
def wsX7_init_r5 : List Cond := [Cond.instanceMethod yX3_init, Cond.code yX3_init cX3_init 1 none, Cond.methodLink RX3 3 objectInit, Cond.classLink RX3 9 RX4, Cond.fieldLink RX3 14 "LentSounds$Rehearsal" "charges" "LLentSounds$Row;", Cond.fieldLink RX3 20 "LentSounds$Rehearsal" "latestScenes" "LLentSounds$Row;", Cond.fieldLink RX3 23 "LentSounds$Rehearsal" "latestEnds" "LLentSounds$Row;", Cond.fieldLink RX3 26 "LentSounds$Rehearsal" "handShelves" "LLentSounds$Row;", Cond.fieldLink RX3 29 "LentSounds$Rehearsal" "freeFrom" "LLentSounds$Row;", Cond.fieldLink RX3 32 "LentSounds$Rehearsal" "handPlays" "LLentSounds$Row;", Cond.fieldLink RX3 35 "LentSounds$Rehearsal" "handWays" "LLentSounds$Row;", Cond.fieldLink RX3 38 "LentSounds$Rehearsal" "players" "LLentSounds$Row;", Cond.fieldLink RX3 41 "LentSounds$Rehearsal" "reasons" "LLentSounds$Row;", Cond.fieldLink RX3 44 "LentSounds$Rehearsal" "ways" "LLentSounds$Row;", Cond.fieldLink RX3 47 "LentSounds$Rehearsal" "sceneMisses" "LLentSounds$Row;", Cond.fieldLink RX3 50 "LentSounds$Rehearsal" "sceneLoans" "LLentSounds$Row;", Cond.fieldLink RX3 53 "LentSounds$Rehearsal" "hands" "I", Cond.fieldLink RX3 57 "LentSounds$Rehearsal" "missedCues" "I", Cond.fieldLink RX3 60 "LentSounds$Rehearsal" "missedByEar" "I", Cond.methodLink RX3 11 yX4_init]
def wsX7_init : List Cond := .code yX7_init cX7_init 1 none :: ((wsX7_init_r1 ++ (wsX7_init_r2 ++ (wsX7_init_r3 ++ (wsX7_init_r4 ++ wsX7_init_r5)))) ++ wsX50 ++ wsX70 ++ wsX20 ++ wsX60 ++ wsX10 ++ wsX30 ++ wsX40 ++ wsX00)
def wsX7_isSoundValue : List Cond := .code yX7_isSoundValue cX7_isSoundValue 2 (some .boolean) :: ([.methodLink RX7 51 yX7_isBelow, .static yX7_isBelow, .initialized RX7, .code yX7_isBelow cX7_isBelow 2 (some .boolean), .methodLink RX7 76 yX7_isWithin, .static yX7_isWithin, .code yX7_isWithin cX7_isWithin 3 (some .boolean)])
def wsX7_setSound_r1 : List Cond := [Cond.fieldLink RX7 10 "LentSounds" "now" "LLentSounds$State;", Cond.fieldLink RX7 22 "LentSounds" "history" "LLentSounds$History;", Cond.methodLink RX7 51 yX7_isBelow, Cond.static yX7_isBelow, Cond.initialized RX7, Cond.code yX7_isBelow cX7_isBelow 2 (some .boolean), Cond.methodLink RX7 55 yX7_isSoundValue, Cond.static yX7_isSoundValue, Cond.code yX7_isSoundValue cX7_isSoundValue 2 (some .boolean), Cond.methodLink RX7 76 yX7_isWithin, Cond.static yX7_isWithin, Cond.code yX7_isWithin cX7_isWithin 3 (some .boolean), Cond.methodLink RX7 58 yX5_soundRow, Cond.instanceMethod yX5_soundRow, Cond.selects RX5 yX5_soundRow yX5_soundRow, Cond.initialized RX5, Cond.code yX5_soundRow cX5_soundRow 2 (some (.object "LentSounds$Row")), Cond.fieldLink RX5 14 "LentSounds$State" "soundShelves" "LLentSounds$Row;", Cond.fieldLink RX5 20 "LentSounds$State" "charges" "LLentSounds$Row;", Cond.fieldLink RX5 23 "LentSounds$State" "loudness" "LLentSounds$Row;", Cond.methodLink RX7 62 yX4_get, Cond.instanceMethod yX4_get, Cond.selects RX4 yX4_get yX4_get, Cond.initialized RX4]
def wsX7_setSound_r2 : List Cond := [Cond.code yX4_get cX4_get 2 (some .int), Cond.fieldLink RX4 13 "LentSounds$Row" "cells" "[I", Cond.methodLink RX7 68 yX2_record, Cond.instanceMethod yX2_record, Cond.selects RX2 yX2_record yX2_record, Cond.initialized RX2, Cond.code yX2_record cX2_record 3 none, Cond.fieldLink RX2 17 "LentSounds$History" "size" "I", Cond.fieldLink RX2 11 "LentSounds$History" "states" "[LLentSounds$State;", Cond.methodLink RX2 22 yX2_dropOldest, Cond.instanceMethod yX2_dropOldest, Cond.selects RX2 yX2_dropOldest yX2_dropOldest, Cond.code yX2_dropOldest cX2_dropOldest 3 none, Cond.methodLink RX2 25 yX2_at, Cond.instanceMethod yX2_at, Cond.selects RX2 yX2_at yX2_at, Cond.code yX2_at cX2_at 2 (some (.object "LentSounds$State")), Cond.methodLink RX2 29 yX5_copyFrom, Cond.instanceMethod yX5_copyFrom, Cond.selects RX5 yX5_copyFrom yX5_copyFrom, Cond.code yX5_copyFrom cX5_copyFrom 2 none, Cond.fieldLink RX5 26 "LentSounds$State" "handShelves" "LLentSounds$Row;", Cond.fieldLink RX5 32 "LentSounds$State" "cues" "LLentSounds$CueList;", Cond.fieldLink RX5 36 "LentSounds$State" "hands" "I"]
def wsX7_setSound_r3 : List Cond := [Cond.fieldLink RX5 40 "LentSounds$State" "carrying" "I", Cond.fieldLink RX5 43 "LentSounds$State" "takes" "I", Cond.fieldLink RX5 46 "LentSounds$State" "playedCues" "I", Cond.fieldLink RX5 49 "LentSounds$State" "missedCues" "I", Cond.fieldLink RX5 52 "LentSounds$State" "missedByEar" "I", Cond.methodLink RX5 59 yX4_copyFrom, Cond.instanceMethod yX4_copyFrom, Cond.selects RX4 yX4_copyFrom yX4_copyFrom, Cond.code yX4_copyFrom cX4_copyFrom 3 none, Cond.methodLink RX4 27 Lib.Math.min.name, Cond.static Lib.Math.min.name, Cond.initialized "java/lang/Math", Cond.code Lib.Math.min.name Lib.Math.min.code 2 (some .int), Cond.methodLink RX4 30 arraycopyName, Cond.native arraycopyName, Cond.static arraycopyName, Cond.initialized "java/lang/System", Cond.methodLink RX5 63 yX0_copyFrom, Cond.instanceMethod yX0_copyFrom, Cond.selects RX0 yX0_copyFrom yX0_copyFrom, Cond.initialized RX0, Cond.code yX0_copyFrom cX0_copyFrom 2 none, Cond.fieldLink RX0 23 "LentSounds$CueList" "ticks" "LLentSounds$Row;", Cond.fieldLink RX0 27 "LentSounds$CueList" "scenes" "LLentSounds$Row;"]
def wsX7_setSound_r4 : List Cond := [Cond.fieldLink RX0 30 "LentSounds$CueList" "sounds" "LLentSounds$Row;", Cond.fieldLink RX0 33 "LentSounds$CueList" "lengths" "LLentSounds$Row;", Cond.fieldLink RX0 9 "LentSounds$CueList" "size" "I", Cond.fieldLink RX0 15 "LentSounds$CueList" "capacity" "I", Cond.methodLink RX0 40 Lib.Math.min.name, Cond.methodLink RX0 36 yX4_copyFrom, Cond.methodLink RX7 72 yX4_put, Cond.instanceMethod yX4_put, Cond.selects RX4 yX4_put yX4_put, Cond.code yX4_put cX4_put 3 none]
def wsX7_setSound : List Cond := .code yX7_setSound cX7_setSound 6 (some .int) :: ((wsX7_setSound_r1 ++ (wsX7_setSound_r2 ++ (wsX7_setSound_r3 ++ wsX7_setSound_r4))) ++ wsX70 ++ wsX50 ++ wsX40 ++ wsX20 ++ wsX00)
def wsX7_setHands_r1 : List Cond := [Cond.fieldLink RX7 10 "LentSounds" "now" "LLentSounds$State;", Cond.fieldLink RX7 22 "LentSounds" "history" "LLentSounds$History;", Cond.methodLink RX7 76 yX7_isWithin, Cond.static yX7_isWithin, Cond.initialized RX7, Cond.code yX7_isWithin cX7_isWithin 3 (some .boolean), Cond.methodLink RX7 68 yX2_record, Cond.instanceMethod yX2_record, Cond.selects RX2 yX2_record yX2_record, Cond.initialized RX2, Cond.code yX2_record cX2_record 3 none, Cond.fieldLink RX2 17 "LentSounds$History" "size" "I", Cond.fieldLink RX2 11 "LentSounds$History" "states" "[LLentSounds$State;", Cond.methodLink RX2 22 yX2_dropOldest, Cond.instanceMethod yX2_dropOldest, Cond.selects RX2 yX2_dropOldest yX2_dropOldest, Cond.code yX2_dropOldest cX2_dropOldest 3 none, Cond.methodLink RX2 25 yX2_at, Cond.instanceMethod yX2_at, Cond.selects RX2 yX2_at yX2_at, Cond.code yX2_at cX2_at 2 (some (.object "LentSounds$State")), Cond.methodLink RX2 29 yX5_copyFrom, Cond.instanceMethod yX5_copyFrom, Cond.selects RX5 yX5_copyFrom yX5_copyFrom]
def wsX7_setHands_r2 : List Cond := [Cond.initialized RX5, Cond.code yX5_copyFrom cX5_copyFrom 2 none, Cond.fieldLink RX5 14 "LentSounds$State" "soundShelves" "LLentSounds$Row;", Cond.fieldLink RX5 20 "LentSounds$State" "charges" "LLentSounds$Row;", Cond.fieldLink RX5 23 "LentSounds$State" "loudness" "LLentSounds$Row;", Cond.fieldLink RX5 26 "LentSounds$State" "handShelves" "LLentSounds$Row;", Cond.fieldLink RX5 32 "LentSounds$State" "cues" "LLentSounds$CueList;", Cond.fieldLink RX5 36 "LentSounds$State" "hands" "I", Cond.fieldLink RX5 40 "LentSounds$State" "carrying" "I", Cond.fieldLink RX5 43 "LentSounds$State" "takes" "I", Cond.fieldLink RX5 46 "LentSounds$State" "playedCues" "I", Cond.fieldLink RX5 49 "LentSounds$State" "missedCues" "I", Cond.fieldLink RX5 52 "LentSounds$State" "missedByEar" "I", Cond.methodLink RX5 59 yX4_copyFrom, Cond.instanceMethod yX4_copyFrom, Cond.selects RX4 yX4_copyFrom yX4_copyFrom, Cond.initialized RX4, Cond.code yX4_copyFrom cX4_copyFrom 3 none, Cond.fieldLink RX4 13 "LentSounds$Row" "cells" "[I", Cond.methodLink RX4 27 Lib.Math.min.name, Cond.static Lib.Math.min.name, Cond.initialized "java/lang/Math", Cond.code Lib.Math.min.name Lib.Math.min.code 2 (some .int), Cond.methodLink RX4 30 arraycopyName]
def wsX7_setHands_r3 : List Cond := [Cond.native arraycopyName, Cond.static arraycopyName, Cond.initialized "java/lang/System", Cond.methodLink RX5 63 yX0_copyFrom, Cond.instanceMethod yX0_copyFrom, Cond.selects RX0 yX0_copyFrom yX0_copyFrom, Cond.initialized RX0, Cond.code yX0_copyFrom cX0_copyFrom 2 none, Cond.fieldLink RX0 23 "LentSounds$CueList" "ticks" "LLentSounds$Row;", Cond.fieldLink RX0 27 "LentSounds$CueList" "scenes" "LLentSounds$Row;", Cond.fieldLink RX0 30 "LentSounds$CueList" "sounds" "LLentSounds$Row;", Cond.fieldLink RX0 33 "LentSounds$CueList" "lengths" "LLentSounds$Row;", Cond.fieldLink RX0 9 "LentSounds$CueList" "size" "I", Cond.fieldLink RX0 15 "LentSounds$CueList" "capacity" "I", Cond.methodLink RX0 40 Lib.Math.min.name, Cond.methodLink RX0 36 yX4_copyFrom, Cond.methodLink RX7 72 yX4_put, Cond.instanceMethod yX4_put, Cond.selects RX4 yX4_put yX4_put, Cond.code yX4_put cX4_put 3 none]
def wsX7_setHands : List Cond := .code yX7_setHands cX7_setHands 4 (some .int) :: ((wsX7_setHands_r1 ++ (wsX7_setHands_r2 ++ wsX7_setHands_r3)) ++ wsX70 ++ wsX50 ++ wsX20 ++ wsX40 ++ wsX00)
def wsX7_send_r1 : List Cond := [Cond.fieldLink RX7 10 "LentSounds" "now" "LLentSounds$State;", Cond.fieldLink RX7 22 "LentSounds" "history" "LLentSounds$History;", Cond.methodLink RX7 51 yX7_isBelow, Cond.static yX7_isBelow, Cond.initialized RX7, Cond.code yX7_isBelow cX7_isBelow 2 (some .boolean), Cond.methodLink RX7 62 yX4_get, Cond.instanceMethod yX4_get, Cond.selects RX4 yX4_get yX4_get, Cond.initialized RX4, Cond.code yX4_get cX4_get 2 (some .int), Cond.fieldLink RX4 13 "LentSounds$Row" "cells" "[I", Cond.methodLink RX7 68 yX2_record, Cond.instanceMethod yX2_record, Cond.selects RX2 yX2_record yX2_record, Cond.initialized RX2, Cond.code yX2_record cX2_record 3 none, Cond.fieldLink RX2 17 "LentSounds$History" "size" "I", Cond.fieldLink RX2 11 "LentSounds$History" "states" "[LLentSounds$State;", Cond.methodLink RX2 22 yX2_dropOldest, Cond.instanceMethod yX2_dropOldest, Cond.selects RX2 yX2_dropOldest yX2_dropOldest, Cond.code yX2_dropOldest cX2_dropOldest 3 none, Cond.methodLink RX2 25 yX2_at]
def wsX7_send_r2 : List Cond := [Cond.instanceMethod yX2_at, Cond.selects RX2 yX2_at yX2_at, Cond.code yX2_at cX2_at 2 (some (.object "LentSounds$State")), Cond.methodLink RX2 29 yX5_copyFrom, Cond.instanceMethod yX5_copyFrom, Cond.selects RX5 yX5_copyFrom yX5_copyFrom, Cond.initialized RX5, Cond.code yX5_copyFrom cX5_copyFrom 2 none, Cond.fieldLink RX5 14 "LentSounds$State" "soundShelves" "LLentSounds$Row;", Cond.fieldLink RX5 20 "LentSounds$State" "charges" "LLentSounds$Row;", Cond.fieldLink RX5 23 "LentSounds$State" "loudness" "LLentSounds$Row;", Cond.fieldLink RX5 26 "LentSounds$State" "handShelves" "LLentSounds$Row;", Cond.fieldLink RX5 32 "LentSounds$State" "cues" "LLentSounds$CueList;", Cond.fieldLink RX5 36 "LentSounds$State" "hands" "I", Cond.fieldLink RX5 40 "LentSounds$State" "carrying" "I", Cond.fieldLink RX5 43 "LentSounds$State" "takes" "I", Cond.fieldLink RX5 46 "LentSounds$State" "playedCues" "I", Cond.fieldLink RX5 49 "LentSounds$State" "missedCues" "I", Cond.fieldLink RX5 52 "LentSounds$State" "missedByEar" "I", Cond.methodLink RX5 59 yX4_copyFrom, Cond.instanceMethod yX4_copyFrom, Cond.selects RX4 yX4_copyFrom yX4_copyFrom, Cond.code yX4_copyFrom cX4_copyFrom 3 none, Cond.methodLink RX4 27 Lib.Math.min.name]
def wsX7_send_r3 : List Cond := [Cond.static Lib.Math.min.name, Cond.initialized "java/lang/Math", Cond.code Lib.Math.min.name Lib.Math.min.code 2 (some .int), Cond.methodLink RX4 30 arraycopyName, Cond.native arraycopyName, Cond.static arraycopyName, Cond.initialized "java/lang/System", Cond.methodLink RX5 63 yX0_copyFrom, Cond.instanceMethod yX0_copyFrom, Cond.selects RX0 yX0_copyFrom yX0_copyFrom, Cond.initialized RX0, Cond.code yX0_copyFrom cX0_copyFrom 2 none, Cond.fieldLink RX0 23 "LentSounds$CueList" "ticks" "LLentSounds$Row;", Cond.fieldLink RX0 27 "LentSounds$CueList" "scenes" "LLentSounds$Row;", Cond.fieldLink RX0 30 "LentSounds$CueList" "sounds" "LLentSounds$Row;", Cond.fieldLink RX0 33 "LentSounds$CueList" "lengths" "LLentSounds$Row;", Cond.fieldLink RX0 9 "LentSounds$CueList" "size" "I", Cond.fieldLink RX0 15 "LentSounds$CueList" "capacity" "I", Cond.methodLink RX0 40 Lib.Math.min.name, Cond.methodLink RX0 36 yX4_copyFrom, Cond.methodLink RX7 72 yX4_put, Cond.instanceMethod yX4_put, Cond.selects RX4 yX4_put yX4_put, Cond.code yX4_put cX4_put 3 none]
def wsX7_send : List Cond := .code yX7_send cX7_send 4 (some .int) :: ((wsX7_send_r1 ++ (wsX7_send_r2 ++ wsX7_send_r3)) ++ wsX70 ++ wsX50 ++ wsX40 ++ wsX20 ++ wsX00)
def wsX7_setCarrying_r1 : List Cond := [Cond.fieldLink RX7 10 "LentSounds" "now" "LLentSounds$State;", Cond.fieldLink RX7 22 "LentSounds" "history" "LLentSounds$History;", Cond.methodLink RX7 76 yX7_isWithin, Cond.static yX7_isWithin, Cond.initialized RX7, Cond.code yX7_isWithin cX7_isWithin 3 (some .boolean), Cond.methodLink RX7 68 yX2_record, Cond.instanceMethod yX2_record, Cond.selects RX2 yX2_record yX2_record, Cond.initialized RX2, Cond.code yX2_record cX2_record 3 none, Cond.fieldLink RX2 17 "LentSounds$History" "size" "I", Cond.fieldLink RX2 11 "LentSounds$History" "states" "[LLentSounds$State;", Cond.methodLink RX2 22 yX2_dropOldest, Cond.instanceMethod yX2_dropOldest, Cond.selects RX2 yX2_dropOldest yX2_dropOldest, Cond.code yX2_dropOldest cX2_dropOldest 3 none, Cond.methodLink RX2 25 yX2_at, Cond.instanceMethod yX2_at, Cond.selects RX2 yX2_at yX2_at, Cond.code yX2_at cX2_at 2 (some (.object "LentSounds$State")), Cond.methodLink RX2 29 yX5_copyFrom, Cond.instanceMethod yX5_copyFrom, Cond.selects RX5 yX5_copyFrom yX5_copyFrom]
def wsX7_setCarrying_r2 : List Cond := [Cond.initialized RX5, Cond.code yX5_copyFrom cX5_copyFrom 2 none, Cond.fieldLink RX5 14 "LentSounds$State" "soundShelves" "LLentSounds$Row;", Cond.fieldLink RX5 20 "LentSounds$State" "charges" "LLentSounds$Row;", Cond.fieldLink RX5 23 "LentSounds$State" "loudness" "LLentSounds$Row;", Cond.fieldLink RX5 26 "LentSounds$State" "handShelves" "LLentSounds$Row;", Cond.fieldLink RX5 32 "LentSounds$State" "cues" "LLentSounds$CueList;", Cond.fieldLink RX5 36 "LentSounds$State" "hands" "I", Cond.fieldLink RX5 40 "LentSounds$State" "carrying" "I", Cond.fieldLink RX5 43 "LentSounds$State" "takes" "I", Cond.fieldLink RX5 46 "LentSounds$State" "playedCues" "I", Cond.fieldLink RX5 49 "LentSounds$State" "missedCues" "I", Cond.fieldLink RX5 52 "LentSounds$State" "missedByEar" "I", Cond.methodLink RX5 59 yX4_copyFrom, Cond.instanceMethod yX4_copyFrom, Cond.selects RX4 yX4_copyFrom yX4_copyFrom, Cond.initialized RX4, Cond.code yX4_copyFrom cX4_copyFrom 3 none, Cond.fieldLink RX4 13 "LentSounds$Row" "cells" "[I", Cond.methodLink RX4 27 Lib.Math.min.name, Cond.static Lib.Math.min.name, Cond.initialized "java/lang/Math", Cond.code Lib.Math.min.name Lib.Math.min.code 2 (some .int), Cond.methodLink RX4 30 arraycopyName]
def wsX7_setCarrying_r3 : List Cond := [Cond.native arraycopyName, Cond.static arraycopyName, Cond.initialized "java/lang/System", Cond.methodLink RX5 63 yX0_copyFrom, Cond.instanceMethod yX0_copyFrom, Cond.selects RX0 yX0_copyFrom yX0_copyFrom, Cond.initialized RX0, Cond.code yX0_copyFrom cX0_copyFrom 2 none, Cond.fieldLink RX0 23 "LentSounds$CueList" "ticks" "LLentSounds$Row;", Cond.fieldLink RX0 27 "LentSounds$CueList" "scenes" "LLentSounds$Row;", Cond.fieldLink RX0 30 "LentSounds$CueList" "sounds" "LLentSounds$Row;", Cond.fieldLink RX0 33 "LentSounds$CueList" "lengths" "LLentSounds$Row;", Cond.fieldLink RX0 9 "LentSounds$CueList" "size" "I", Cond.fieldLink RX0 15 "LentSounds$CueList" "capacity" "I", Cond.methodLink RX0 40 Lib.Math.min.name, Cond.methodLink RX0 36 yX4_copyFrom]
def wsX7_setCarrying : List Cond := .code yX7_setCarrying cX7_setCarrying 3 (some .int) :: ((wsX7_setCarrying_r1 ++ (wsX7_setCarrying_r2 ++ wsX7_setCarrying_r3)) ++ wsX70 ++ wsX50 ++ wsX20 ++ wsX40 ++ wsX00)
def wsX7_readCues_r1 : List Cond := [Cond.fieldLink RX7 36 "LentSounds" "reader" "LLentSounds$CueReader;", Cond.fieldLink RX7 10 "LentSounds" "now" "LLentSounds$State;", Cond.fieldLink RX7 29 "LentSounds" "text" "LLentSounds$Text;", Cond.fieldLink RX7 22 "LentSounds" "history" "LLentSounds$History;", Cond.methodLink RX7 95 yX1_readBehind, Cond.instanceMethod yX1_readBehind, Cond.selects RX1 yX1_readBehind yX1_readBehind, Cond.initialized RX1, Cond.code yX1_readBehind cX1_readBehind 4 none, Cond.fieldLink RX1 14 "LentSounds$CueReader" "drafts" "LLentSounds$CueList;", Cond.fieldLink RX1 20 "LentSounds$CueReader" "position" "I", Cond.fieldLink RX1 24 "LentSounds$CueReader" "faulty" "Z", Cond.fieldLink RX1 28 "LentSounds$CueReader" "foundTwice" "Z", Cond.methodLink RX1 31 yX0_copyFrom, Cond.instanceMethod yX0_copyFrom, Cond.selects RX0 yX0_copyFrom yX0_copyFrom, Cond.initialized RX0, Cond.code yX0_copyFrom cX0_copyFrom 2 none, Cond.fieldLink RX0 23 "LentSounds$CueList" "ticks" "LLentSounds$Row;", Cond.fieldLink RX0 27 "LentSounds$CueList" "scenes" "LLentSounds$Row;", Cond.fieldLink RX0 30 "LentSounds$CueList" "sounds" "LLentSounds$Row;", Cond.fieldLink RX0 33 "LentSounds$CueList" "lengths" "LLentSounds$Row;", Cond.fieldLink RX0 9 "LentSounds$CueList" "size" "I", Cond.fieldLink RX0 15 "LentSounds$CueList" "capacity" "I"]
def wsX7_readCues_r2 : List Cond := [Cond.methodLink RX0 40 Lib.Math.min.name, Cond.static Lib.Math.min.name, Cond.initialized "java/lang/Math", Cond.code Lib.Math.min.name Lib.Math.min.code 2 (some .int), Cond.methodLink RX0 36 yX4_copyFrom, Cond.instanceMethod yX4_copyFrom, Cond.selects RX4 yX4_copyFrom yX4_copyFrom, Cond.initialized RX4, Cond.code yX4_copyFrom cX4_copyFrom 3 none, Cond.fieldLink RX4 13 "LentSounds$Row" "cells" "[I", Cond.methodLink RX4 27 Lib.Math.min.name, Cond.methodLink RX4 30 arraycopyName, Cond.native arraycopyName, Cond.static arraycopyName, Cond.initialized "java/lang/System", Cond.methodLink RX1 35 yX1_readCue, Cond.instanceMethod yX1_readCue, Cond.selects RX1 yX1_readCue yX1_readCue, Cond.code yX1_readCue cX1_readCue 6 none, Cond.methodLink RX1 51 yX1_readNumber, Cond.instanceMethod yX1_readNumber, Cond.selects RX1 yX1_readNumber yX1_readNumber, Cond.code yX1_readNumber cX1_readNumber 6 (some .int), Cond.methodLink RX1 70 yX1_digitAt]
def wsX7_readCues_r3 : List Cond := [Cond.static yX1_digitAt, Cond.code yX1_digitAt cX1_digitAt 3 (some .int), Cond.methodLink RX1 55 yX6_at, Cond.instanceMethod yX6_at, Cond.selects RX6 yX6_at yX6_at, Cond.initialized RX6, Cond.code yX6_at cX6_at 2 (some .int), Cond.fieldLink RX6 20 "LentSounds$Text" "length" "I", Cond.fieldLink RX6 14 "LentSounds$Text" "characters" "LLentSounds$Row;", Cond.static yX7_isBelow, Cond.initialized RX7, Cond.code yX7_isBelow cX7_isBelow 2 (some .boolean), Cond.methodLink RX6 32 yX4_get, Cond.instanceMethod yX4_get, Cond.selects RX4 yX4_get yX4_get, Cond.code yX4_get cX4_get 2 (some .int), Cond.static yX7_isWithin, Cond.code yX7_isWithin cX7_isWithin 3 (some .boolean), Cond.methodLink RX1 44 yX1_readSign, Cond.instanceMethod yX1_readSign, Cond.selects RX1 yX1_readSign yX1_readSign, Cond.code yX1_readSign cX1_readSign 3 none, Cond.methodLink RX1 59 yX1_addDraft, Cond.instanceMethod yX1_addDraft]
def wsX7_readCues_r4 : List Cond := [Cond.selects RX1 yX1_addDraft yX1_addDraft, Cond.code yX1_addDraft cX1_addDraft 5 none, Cond.methodLink RX1 63 yX0_has, Cond.instanceMethod yX0_has, Cond.selects RX0 yX0_has yX0_has, Cond.code yX0_has cX0_has 5 (some .boolean), Cond.methodLink RX0 46 yX4_get, Cond.methodLink RX1 67 yX0_append, Cond.instanceMethod yX0_append, Cond.selects RX0 yX0_append yX0_append, Cond.code yX0_append cX0_append 5 none, Cond.methodLink RX0 50 yX4_put, Cond.instanceMethod yX4_put, Cond.selects RX4 yX4_put yX4_put, Cond.code yX4_put cX4_put 3 none, Cond.methodLink RX1 48 yX0_putInOrder, Cond.instanceMethod yX0_putInOrder, Cond.selects RX0 yX0_putInOrder yX0_putInOrder, Cond.code yX0_putInOrder cX0_putInOrder 2 none, Cond.methodLink RX0 54 yX0_moveToItsPlace, Cond.instanceMethod yX0_moveToItsPlace, Cond.selects RX0 yX0_moveToItsPlace yX0_moveToItsPlace, Cond.code yX0_moveToItsPlace cX0_moveToItsPlace 3 none, Cond.methodLink RX0 80 yX0_order]
def wsX7_readCues_r5 : List Cond := [Cond.instanceMethod yX0_order, Cond.selects RX0 yX0_order yX0_order, Cond.code yX0_order cX0_order 2 (some .int), Cond.methodLink RX0 57 yX0_swap, Cond.instanceMethod yX0_swap, Cond.selects RX0 yX0_swap yX0_swap, Cond.code yX0_swap cX0_swap 3 none, Cond.methodLink RX0 83 yX4_swap, Cond.instanceMethod yX4_swap, Cond.selects RX4 yX4_swap yX4_swap, Cond.code yX4_swap cX4_swap 4 none, Cond.methodLink RX4 19 yX4_get, Cond.methodLink RX4 23 yX4_put, Cond.methodLink RX7 68 yX2_record, Cond.instanceMethod yX2_record, Cond.selects RX2 yX2_record yX2_record, Cond.initialized RX2, Cond.code yX2_record cX2_record 3 none, Cond.fieldLink RX2 17 "LentSounds$History" "size" "I", Cond.fieldLink RX2 11 "LentSounds$History" "states" "[LLentSounds$State;", Cond.methodLink RX2 22 yX2_dropOldest, Cond.instanceMethod yX2_dropOldest, Cond.selects RX2 yX2_dropOldest yX2_dropOldest, Cond.code yX2_dropOldest cX2_dropOldest 3 none]
def wsX7_readCues_r6 : List Cond := [Cond.methodLink RX2 25 yX2_at, Cond.instanceMethod yX2_at, Cond.selects RX2 yX2_at yX2_at, Cond.code yX2_at cX2_at 2 (some (.object "LentSounds$State")), Cond.methodLink RX2 29 yX5_copyFrom, Cond.instanceMethod yX5_copyFrom, Cond.selects RX5 yX5_copyFrom yX5_copyFrom, Cond.initialized RX5, Cond.code yX5_copyFrom cX5_copyFrom 2 none, Cond.fieldLink RX5 14 "LentSounds$State" "soundShelves" "LLentSounds$Row;", Cond.fieldLink RX5 20 "LentSounds$State" "charges" "LLentSounds$Row;", Cond.fieldLink RX5 23 "LentSounds$State" "loudness" "LLentSounds$Row;", Cond.fieldLink RX5 26 "LentSounds$State" "handShelves" "LLentSounds$Row;", Cond.fieldLink RX5 32 "LentSounds$State" "cues" "LLentSounds$CueList;", Cond.fieldLink RX5 36 "LentSounds$State" "hands" "I", Cond.fieldLink RX5 40 "LentSounds$State" "carrying" "I", Cond.fieldLink RX5 43 "LentSounds$State" "takes" "I", Cond.fieldLink RX5 46 "LentSounds$State" "playedCues" "I", Cond.fieldLink RX5 49 "LentSounds$State" "missedCues" "I", Cond.fieldLink RX5 52 "LentSounds$State" "missedByEar" "I", Cond.methodLink RX5 59 yX4_copyFrom, Cond.methodLink RX5 63 yX0_copyFrom, Cond.methodLink RX7 116 yX0_copyFrom]
def wsX7_readCues : List Cond := .code yX7_readCues cX7_readCues 1 (some .int) :: ((wsX7_readCues_r1 ++ (wsX7_readCues_r2 ++ (wsX7_readCues_r3 ++ (wsX7_readCues_r4 ++ (wsX7_readCues_r5 ++ wsX7_readCues_r6))))) ++ wsX70 ++ wsX50 ++ wsX10 ++ wsX00 ++ wsX60 ++ wsX40 ++ wsX20)
def wsX7_removeCue_r1 : List Cond := [Cond.fieldLink RX7 10 "LentSounds" "now" "LLentSounds$State;", Cond.fieldLink RX7 22 "LentSounds" "history" "LLentSounds$History;", Cond.methodLink RX7 51 yX7_isBelow, Cond.static yX7_isBelow, Cond.initialized RX7, Cond.code yX7_isBelow cX7_isBelow 2 (some .boolean), Cond.methodLink RX7 68 yX2_record, Cond.instanceMethod yX2_record, Cond.selects RX2 yX2_record yX2_record, Cond.initialized RX2, Cond.code yX2_record cX2_record 3 none, Cond.fieldLink RX2 17 "LentSounds$History" "size" "I", Cond.fieldLink RX2 11 "LentSounds$History" "states" "[LLentSounds$State;", Cond.methodLink RX2 22 yX2_dropOldest, Cond.instanceMethod yX2_dropOldest, Cond.selects RX2 yX2_dropOldest yX2_dropOldest, Cond.code yX2_dropOldest cX2_dropOldest 3 none, Cond.methodLink RX2 25 yX2_at, Cond.instanceMethod yX2_at, Cond.selects RX2 yX2_at yX2_at, Cond.code yX2_at cX2_at 2 (some (.object "LentSounds$State")), Cond.methodLink RX2 29 yX5_copyFrom, Cond.instanceMethod yX5_copyFrom, Cond.selects RX5 yX5_copyFrom yX5_copyFrom]
def wsX7_removeCue_r2 : List Cond := [Cond.initialized RX5, Cond.code yX5_copyFrom cX5_copyFrom 2 none, Cond.fieldLink RX5 14 "LentSounds$State" "soundShelves" "LLentSounds$Row;", Cond.fieldLink RX5 20 "LentSounds$State" "charges" "LLentSounds$Row;", Cond.fieldLink RX5 23 "LentSounds$State" "loudness" "LLentSounds$Row;", Cond.fieldLink RX5 26 "LentSounds$State" "handShelves" "LLentSounds$Row;", Cond.fieldLink RX5 32 "LentSounds$State" "cues" "LLentSounds$CueList;", Cond.fieldLink RX5 36 "LentSounds$State" "hands" "I", Cond.fieldLink RX5 40 "LentSounds$State" "carrying" "I", Cond.fieldLink RX5 43 "LentSounds$State" "takes" "I", Cond.fieldLink RX5 46 "LentSounds$State" "playedCues" "I", Cond.fieldLink RX5 49 "LentSounds$State" "missedCues" "I", Cond.fieldLink RX5 52 "LentSounds$State" "missedByEar" "I", Cond.methodLink RX5 59 yX4_copyFrom, Cond.instanceMethod yX4_copyFrom, Cond.selects RX4 yX4_copyFrom yX4_copyFrom, Cond.initialized RX4, Cond.code yX4_copyFrom cX4_copyFrom 3 none, Cond.fieldLink RX4 13 "LentSounds$Row" "cells" "[I", Cond.methodLink RX4 27 Lib.Math.min.name, Cond.static Lib.Math.min.name, Cond.initialized "java/lang/Math", Cond.code Lib.Math.min.name Lib.Math.min.code 2 (some .int), Cond.methodLink RX4 30 arraycopyName]
def wsX7_removeCue_r3 : List Cond := [Cond.native arraycopyName, Cond.static arraycopyName, Cond.initialized "java/lang/System", Cond.methodLink RX5 63 yX0_copyFrom, Cond.instanceMethod yX0_copyFrom, Cond.selects RX0 yX0_copyFrom yX0_copyFrom, Cond.initialized RX0, Cond.code yX0_copyFrom cX0_copyFrom 2 none, Cond.fieldLink RX0 23 "LentSounds$CueList" "ticks" "LLentSounds$Row;", Cond.fieldLink RX0 27 "LentSounds$CueList" "scenes" "LLentSounds$Row;", Cond.fieldLink RX0 30 "LentSounds$CueList" "sounds" "LLentSounds$Row;", Cond.fieldLink RX0 33 "LentSounds$CueList" "lengths" "LLentSounds$Row;", Cond.fieldLink RX0 9 "LentSounds$CueList" "size" "I", Cond.fieldLink RX0 15 "LentSounds$CueList" "capacity" "I", Cond.methodLink RX0 40 Lib.Math.min.name, Cond.methodLink RX0 36 yX4_copyFrom, Cond.methodLink RX7 120 yX0_removeAt, Cond.instanceMethod yX0_removeAt, Cond.selects RX0 yX0_removeAt yX0_removeAt, Cond.code yX0_removeAt cX0_removeAt 3 none, Cond.methodLink RX0 57 yX0_swap, Cond.instanceMethod yX0_swap, Cond.selects RX0 yX0_swap yX0_swap, Cond.code yX0_swap cX0_swap 3 none]
def wsX7_removeCue_r4 : List Cond := [Cond.methodLink RX0 83 yX4_swap, Cond.instanceMethod yX4_swap, Cond.selects RX4 yX4_swap yX4_swap, Cond.code yX4_swap cX4_swap 4 none, Cond.methodLink RX4 19 yX4_get, Cond.instanceMethod yX4_get, Cond.selects RX4 yX4_get yX4_get, Cond.code yX4_get cX4_get 2 (some .int), Cond.methodLink RX4 23 yX4_put, Cond.instanceMethod yX4_put, Cond.selects RX4 yX4_put yX4_put, Cond.code yX4_put cX4_put 3 none]
def wsX7_removeCue : List Cond := .code yX7_removeCue cX7_removeCue 2 (some .int) :: ((wsX7_removeCue_r1 ++ (wsX7_removeCue_r2 ++ (wsX7_removeCue_r3 ++ wsX7_removeCue_r4))) ++ wsX70 ++ wsX50 ++ wsX00 ++ wsX20 ++ wsX40)
def wsX7_shift_r1 : List Cond := [Cond.fieldLink RX7 10 "LentSounds" "now" "LLentSounds$State;", Cond.fieldLink RX7 22 "LentSounds" "history" "LLentSounds$History;", Cond.methodLink RX7 51 yX7_isBelow, Cond.static yX7_isBelow, Cond.initialized RX7, Cond.code yX7_isBelow cX7_isBelow 2 (some .boolean), Cond.methodLink RX7 76 yX7_isWithin, Cond.static yX7_isWithin, Cond.code yX7_isWithin cX7_isWithin 3 (some .boolean), Cond.methodLink RX7 124 yX0_canMove, Cond.instanceMethod yX0_canMove, Cond.selects RX0 yX0_canMove yX0_canMove, Cond.initialized RX0, Cond.code yX0_canMove cX0_canMove 4 (some .boolean), Cond.fieldLink RX0 9 "LentSounds$CueList" "size" "I", Cond.fieldLink RX0 27 "LentSounds$CueList" "scenes" "LLentSounds$Row;", Cond.fieldLink RX0 23 "LentSounds$CueList" "ticks" "LLentSounds$Row;", Cond.methodLink RX0 46 yX4_get, Cond.instanceMethod yX4_get, Cond.selects RX4 yX4_get yX4_get, Cond.initialized RX4, Cond.code yX4_get cX4_get 2 (some .int), Cond.fieldLink RX4 13 "LentSounds$Row" "cells" "[I", Cond.methodLink RX7 127 yX0_sizeOfScene]
def wsX7_shift_r2 : List Cond := [Cond.instanceMethod yX0_sizeOfScene, Cond.selects RX0 yX0_sizeOfScene yX0_sizeOfScene, Cond.code yX0_sizeOfScene cX0_sizeOfScene 2 (some .int), Cond.methodLink RX0 70 yX0_timesIn, Cond.instanceMethod yX0_timesIn, Cond.selects RX0 yX0_timesIn yX0_timesIn, Cond.code yX0_timesIn cX0_timesIn 5 (some .int), Cond.methodLink RX7 68 yX2_record, Cond.instanceMethod yX2_record, Cond.selects RX2 yX2_record yX2_record, Cond.initialized RX2, Cond.code yX2_record cX2_record 3 none, Cond.fieldLink RX2 17 "LentSounds$History" "size" "I", Cond.fieldLink RX2 11 "LentSounds$History" "states" "[LLentSounds$State;", Cond.methodLink RX2 22 yX2_dropOldest, Cond.instanceMethod yX2_dropOldest, Cond.selects RX2 yX2_dropOldest yX2_dropOldest, Cond.code yX2_dropOldest cX2_dropOldest 3 none, Cond.methodLink RX2 25 yX2_at, Cond.instanceMethod yX2_at, Cond.selects RX2 yX2_at yX2_at, Cond.code yX2_at cX2_at 2 (some (.object "LentSounds$State")), Cond.methodLink RX2 29 yX5_copyFrom, Cond.instanceMethod yX5_copyFrom]
def wsX7_shift_r3 : List Cond := [Cond.selects RX5 yX5_copyFrom yX5_copyFrom, Cond.initialized RX5, Cond.code yX5_copyFrom cX5_copyFrom 2 none, Cond.fieldLink RX5 14 "LentSounds$State" "soundShelves" "LLentSounds$Row;", Cond.fieldLink RX5 20 "LentSounds$State" "charges" "LLentSounds$Row;", Cond.fieldLink RX5 23 "LentSounds$State" "loudness" "LLentSounds$Row;", Cond.fieldLink RX5 26 "LentSounds$State" "handShelves" "LLentSounds$Row;", Cond.fieldLink RX5 32 "LentSounds$State" "cues" "LLentSounds$CueList;", Cond.fieldLink RX5 36 "LentSounds$State" "hands" "I", Cond.fieldLink RX5 40 "LentSounds$State" "carrying" "I", Cond.fieldLink RX5 43 "LentSounds$State" "takes" "I", Cond.fieldLink RX5 46 "LentSounds$State" "playedCues" "I", Cond.fieldLink RX5 49 "LentSounds$State" "missedCues" "I", Cond.fieldLink RX5 52 "LentSounds$State" "missedByEar" "I", Cond.methodLink RX5 59 yX4_copyFrom, Cond.instanceMethod yX4_copyFrom, Cond.selects RX4 yX4_copyFrom yX4_copyFrom, Cond.code yX4_copyFrom cX4_copyFrom 3 none, Cond.methodLink RX4 27 Lib.Math.min.name, Cond.static Lib.Math.min.name, Cond.initialized "java/lang/Math", Cond.code Lib.Math.min.name Lib.Math.min.code 2 (some .int), Cond.methodLink RX4 30 arraycopyName, Cond.native arraycopyName]
def wsX7_shift_r4 : List Cond := [Cond.static arraycopyName, Cond.initialized "java/lang/System", Cond.methodLink RX5 63 yX0_copyFrom, Cond.instanceMethod yX0_copyFrom, Cond.selects RX0 yX0_copyFrom yX0_copyFrom, Cond.code yX0_copyFrom cX0_copyFrom 2 none, Cond.fieldLink RX0 30 "LentSounds$CueList" "sounds" "LLentSounds$Row;", Cond.fieldLink RX0 33 "LentSounds$CueList" "lengths" "LLentSounds$Row;", Cond.fieldLink RX0 15 "LentSounds$CueList" "capacity" "I", Cond.methodLink RX0 40 Lib.Math.min.name, Cond.methodLink RX0 36 yX4_copyFrom, Cond.methodLink RX7 130 yX0_moveScene, Cond.instanceMethod yX0_moveScene, Cond.selects RX0 yX0_moveScene yX0_moveScene, Cond.code yX0_moveScene cX0_moveScene 4 none, Cond.methodLink RX0 64 yX4_increase, Cond.instanceMethod yX4_increase, Cond.selects RX4 yX4_increase yX4_increase, Cond.code yX4_increase cX4_increase 3 none, Cond.methodLink RX4 19 yX4_get, Cond.methodLink RX4 23 yX4_put, Cond.instanceMethod yX4_put, Cond.selects RX4 yX4_put yX4_put, Cond.code yX4_put cX4_put 3 none]
def wsX7_shift_r5 : List Cond := [Cond.methodLink RX0 67 yX0_putInOrder, Cond.instanceMethod yX0_putInOrder, Cond.selects RX0 yX0_putInOrder yX0_putInOrder, Cond.code yX0_putInOrder cX0_putInOrder 2 none, Cond.methodLink RX0 54 yX0_moveToItsPlace, Cond.instanceMethod yX0_moveToItsPlace, Cond.selects RX0 yX0_moveToItsPlace yX0_moveToItsPlace, Cond.code yX0_moveToItsPlace cX0_moveToItsPlace 3 none, Cond.methodLink RX0 80 yX0_order, Cond.instanceMethod yX0_order, Cond.selects RX0 yX0_order yX0_order, Cond.code yX0_order cX0_order 2 (some .int), Cond.methodLink RX0 57 yX0_swap, Cond.instanceMethod yX0_swap, Cond.selects RX0 yX0_swap yX0_swap, Cond.code yX0_swap cX0_swap 3 none, Cond.methodLink RX0 83 yX4_swap, Cond.instanceMethod yX4_swap, Cond.selects RX4 yX4_swap yX4_swap, Cond.code yX4_swap cX4_swap 4 none]
def wsX7_shift : List Cond := .code yX7_shift cX7_shift 4 (some .int) :: ((wsX7_shift_r1 ++ (wsX7_shift_r2 ++ (wsX7_shift_r3 ++ (wsX7_shift_r4 ++ wsX7_shift_r5)))) ++ wsX70 ++ wsX50 ++ wsX00 ++ wsX40 ++ wsX20)
def wsX7_cutScene_r1 : List Cond := [Cond.fieldLink RX7 10 "LentSounds" "now" "LLentSounds$State;", Cond.fieldLink RX7 22 "LentSounds" "history" "LLentSounds$History;", Cond.methodLink RX7 51 yX7_isBelow, Cond.static yX7_isBelow, Cond.initialized RX7, Cond.code yX7_isBelow cX7_isBelow 2 (some .boolean), Cond.methodLink RX7 127 yX0_sizeOfScene, Cond.instanceMethod yX0_sizeOfScene, Cond.selects RX0 yX0_sizeOfScene yX0_sizeOfScene, Cond.initialized RX0, Cond.code yX0_sizeOfScene cX0_sizeOfScene 2 (some .int), Cond.fieldLink RX0 27 "LentSounds$CueList" "scenes" "LLentSounds$Row;", Cond.methodLink RX0 70 yX0_timesIn, Cond.instanceMethod yX0_timesIn, Cond.selects RX0 yX0_timesIn yX0_timesIn, Cond.code yX0_timesIn cX0_timesIn 5 (some .int), Cond.fieldLink RX0 9 "LentSounds$CueList" "size" "I", Cond.methodLink RX0 46 yX4_get, Cond.instanceMethod yX4_get, Cond.selects RX4 yX4_get yX4_get, Cond.initialized RX4, Cond.code yX4_get cX4_get 2 (some .int), Cond.fieldLink RX4 13 "LentSounds$Row" "cells" "[I", Cond.methodLink RX7 68 yX2_record]
def wsX7_cutScene_r2 : List Cond := [Cond.instanceMethod yX2_record, Cond.selects RX2 yX2_record yX2_record, Cond.initialized RX2, Cond.code yX2_record cX2_record 3 none, Cond.fieldLink RX2 17 "LentSounds$History" "size" "I", Cond.fieldLink RX2 11 "LentSounds$History" "states" "[LLentSounds$State;", Cond.methodLink RX2 22 yX2_dropOldest, Cond.instanceMethod yX2_dropOldest, Cond.selects RX2 yX2_dropOldest yX2_dropOldest, Cond.code yX2_dropOldest cX2_dropOldest 3 none, Cond.methodLink RX2 25 yX2_at, Cond.instanceMethod yX2_at, Cond.selects RX2 yX2_at yX2_at, Cond.code yX2_at cX2_at 2 (some (.object "LentSounds$State")), Cond.methodLink RX2 29 yX5_copyFrom, Cond.instanceMethod yX5_copyFrom, Cond.selects RX5 yX5_copyFrom yX5_copyFrom, Cond.initialized RX5, Cond.code yX5_copyFrom cX5_copyFrom 2 none, Cond.fieldLink RX5 14 "LentSounds$State" "soundShelves" "LLentSounds$Row;", Cond.fieldLink RX5 20 "LentSounds$State" "charges" "LLentSounds$Row;", Cond.fieldLink RX5 23 "LentSounds$State" "loudness" "LLentSounds$Row;", Cond.fieldLink RX5 26 "LentSounds$State" "handShelves" "LLentSounds$Row;", Cond.fieldLink RX5 32 "LentSounds$State" "cues" "LLentSounds$CueList;"]
def wsX7_cutScene_r3 : List Cond := [Cond.fieldLink RX5 36 "LentSounds$State" "hands" "I", Cond.fieldLink RX5 40 "LentSounds$State" "carrying" "I", Cond.fieldLink RX5 43 "LentSounds$State" "takes" "I", Cond.fieldLink RX5 46 "LentSounds$State" "playedCues" "I", Cond.fieldLink RX5 49 "LentSounds$State" "missedCues" "I", Cond.fieldLink RX5 52 "LentSounds$State" "missedByEar" "I", Cond.methodLink RX5 59 yX4_copyFrom, Cond.instanceMethod yX4_copyFrom, Cond.selects RX4 yX4_copyFrom yX4_copyFrom, Cond.code yX4_copyFrom cX4_copyFrom 3 none, Cond.methodLink RX4 27 Lib.Math.min.name, Cond.static Lib.Math.min.name, Cond.initialized "java/lang/Math", Cond.code Lib.Math.min.name Lib.Math.min.code 2 (some .int), Cond.methodLink RX4 30 arraycopyName, Cond.native arraycopyName, Cond.static arraycopyName, Cond.initialized "java/lang/System", Cond.methodLink RX5 63 yX0_copyFrom, Cond.instanceMethod yX0_copyFrom, Cond.selects RX0 yX0_copyFrom yX0_copyFrom, Cond.code yX0_copyFrom cX0_copyFrom 2 none, Cond.fieldLink RX0 23 "LentSounds$CueList" "ticks" "LLentSounds$Row;", Cond.fieldLink RX0 30 "LentSounds$CueList" "sounds" "LLentSounds$Row;"]
def wsX7_cutScene_r4 : List Cond := [Cond.fieldLink RX0 33 "LentSounds$CueList" "lengths" "LLentSounds$Row;", Cond.fieldLink RX0 15 "LentSounds$CueList" "capacity" "I", Cond.methodLink RX0 40 Lib.Math.min.name, Cond.methodLink RX0 36 yX4_copyFrom, Cond.methodLink RX7 133 yX0_removeScene, Cond.instanceMethod yX0_removeScene, Cond.selects RX0 yX0_removeScene yX0_removeScene, Cond.code yX0_removeScene cX0_removeScene 4 none, Cond.methodLink RX0 57 yX0_swap, Cond.instanceMethod yX0_swap, Cond.selects RX0 yX0_swap yX0_swap, Cond.code yX0_swap cX0_swap 3 none, Cond.methodLink RX0 83 yX4_swap, Cond.instanceMethod yX4_swap, Cond.selects RX4 yX4_swap yX4_swap, Cond.code yX4_swap cX4_swap 4 none, Cond.methodLink RX4 19 yX4_get, Cond.methodLink RX4 23 yX4_put, Cond.instanceMethod yX4_put, Cond.selects RX4 yX4_put yX4_put, Cond.code yX4_put cX4_put 3 none]
def wsX7_cutScene : List Cond := .code yX7_cutScene cX7_cutScene 3 (some .int) :: ((wsX7_cutScene_r1 ++ (wsX7_cutScene_r2 ++ (wsX7_cutScene_r3 ++ wsX7_cutScene_r4))) ++ wsX70 ++ wsX50 ++ wsX00 ++ wsX40 ++ wsX20)
def wsX7_rehearse_r1 : List Cond := [Cond.fieldLink RX7 43 "LentSounds" "rehearsal" "LLentSounds$Rehearsal;", Cond.fieldLink RX7 10 "LentSounds" "now" "LLentSounds$State;", Cond.methodLink RX7 238 yX3_begin, Cond.instanceMethod yX3_begin, Cond.selects RX3 yX3_begin yX3_begin, Cond.initialized RX3, Cond.code yX3_begin cX3_begin 5 none, Cond.fieldLink RX3 53 "LentSounds$Rehearsal" "hands" "I", Cond.fieldLink RX3 14 "LentSounds$Rehearsal" "charges" "LLentSounds$Row;", Cond.fieldLink RX3 26 "LentSounds$Rehearsal" "handShelves" "LLentSounds$Row;", Cond.methodLink RX3 66 yX4_copyFrom, Cond.instanceMethod yX4_copyFrom, Cond.selects RX4 yX4_copyFrom yX4_copyFrom, Cond.initialized RX4, Cond.code yX4_copyFrom cX4_copyFrom 3 none, Cond.fieldLink RX4 13 "LentSounds$Row" "cells" "[I", Cond.methodLink RX4 27 Lib.Math.min.name, Cond.static Lib.Math.min.name, Cond.initialized "java/lang/Math", Cond.code Lib.Math.min.name Lib.Math.min.code 2 (some .int), Cond.methodLink RX4 30 arraycopyName, Cond.native arraycopyName, Cond.static arraycopyName, Cond.initialized "java/lang/System"]
def wsX7_rehearse_r2 : List Cond := [Cond.methodLink RX3 72 yX4_get, Cond.instanceMethod yX4_get, Cond.selects RX4 yX4_get yX4_get, Cond.code yX4_get cX4_get 2 (some .int), Cond.methodLink RX3 76 yX4_put, Cond.instanceMethod yX4_put, Cond.selects RX4 yX4_put yX4_put, Cond.code yX4_put cX4_put 3 none, Cond.methodLink RX7 242 yX3_playTake, Cond.instanceMethod yX3_playTake, Cond.selects RX3 yX3_playTake yX3_playTake, Cond.code yX3_playTake cX3_playTake 3 none, Cond.fieldLink RX3 20 "LentSounds$Rehearsal" "latestScenes" "LLentSounds$Row;", Cond.fieldLink RX3 23 "LentSounds$Rehearsal" "latestEnds" "LLentSounds$Row;", Cond.fieldLink RX3 29 "LentSounds$Rehearsal" "freeFrom" "LLentSounds$Row;", Cond.fieldLink RX3 32 "LentSounds$Rehearsal" "handPlays" "LLentSounds$Row;", Cond.fieldLink RX3 35 "LentSounds$Rehearsal" "handWays" "LLentSounds$Row;", Cond.fieldLink RX3 47 "LentSounds$Rehearsal" "sceneMisses" "LLentSounds$Row;", Cond.fieldLink RX3 50 "LentSounds$Rehearsal" "sceneLoans" "LLentSounds$Row;", Cond.fieldLink RX3 57 "LentSounds$Rehearsal" "missedCues" "I", Cond.fieldLink RX3 60 "LentSounds$Rehearsal" "missedByEar" "I", Cond.methodLink RX3 80 yX4_fill, Cond.instanceMethod yX4_fill, Cond.selects RX4 yX4_fill yX4_fill]
def wsX7_rehearse_r3 : List Cond := [Cond.code yX4_fill cX4_fill 3 none, Cond.methodLink RX3 92 yX3_doCue, Cond.instanceMethod yX3_doCue, Cond.selects RX3 yX3_doCue yX3_doCue, Cond.code yX3_doCue cX3_doCue 6 none, Cond.fieldLink RX3 41 "LentSounds$Rehearsal" "reasons" "LLentSounds$Row;", Cond.methodLink RX3 105 yX3_nearestHand, Cond.instanceMethod yX3_nearestHand, Cond.selects RX3 yX3_nearestHand yX3_nearestHand, Cond.code yX3_nearestHand cX3_nearestHand 7 (some .int), Cond.methodLink RX3 130 yX3_wayTo, Cond.instanceMethod yX3_wayTo, Cond.selects RX3 yX3_wayTo yX3_wayTo, Cond.code yX3_wayTo cX3_wayTo 3 (some .int), Cond.methodLink RX3 133 Lib.Math.abs.name, Cond.static Lib.Math.abs.name, Cond.code Lib.Math.abs.name Lib.Math.abs.code 1 (some .int), Cond.methodLink RX3 109 yX3_reasonToMiss, Cond.instanceMethod yX3_reasonToMiss, Cond.selects RX3 yX3_reasonToMiss yX3_reasonToMiss, Cond.code yX3_reasonToMiss cX3_reasonToMiss 7 (some .int), Cond.methodLink RX3 123 yX3_isLent, Cond.instanceMethod yX3_isLent, Cond.selects RX3 yX3_isLent yX3_isLent]
def wsX7_rehearse_r4 : List Cond := [Cond.code yX3_isLent cX3_isLent 4 (some .boolean), Cond.methodLink RX3 113 yX3_play, Cond.instanceMethod yX3_play, Cond.selects RX3 yX3_play yX3_play, Cond.code yX3_play cX3_play 8 none, Cond.fieldLink RX3 38 "LentSounds$Rehearsal" "players" "LLentSounds$Row;", Cond.fieldLink RX3 44 "LentSounds$Rehearsal" "ways" "LLentSounds$Row;", Cond.methodLink RX3 138 yX4_increase, Cond.instanceMethod yX4_increase, Cond.selects RX4 yX4_increase yX4_increase, Cond.code yX4_increase cX4_increase 3 none, Cond.methodLink RX4 19 yX4_get, Cond.methodLink RX4 23 yX4_put, Cond.methodLink RX3 141 yX0_endOf, Cond.instanceMethod yX0_endOf, Cond.selects RX0 yX0_endOf yX0_endOf, Cond.initialized RX0, Cond.code yX0_endOf cX0_endOf 2 (some .int), Cond.fieldLink RX0 23 "LentSounds$CueList" "ticks" "LLentSounds$Row;", Cond.fieldLink RX0 33 "LentSounds$CueList" "lengths" "LLentSounds$Row;", Cond.methodLink RX0 46 yX4_get, Cond.methodLink RX3 117 yX3_miss, Cond.instanceMethod yX3_miss, Cond.selects RX3 yX3_miss yX3_miss]
def wsX7_rehearse_r5 : List Cond := [Cond.code yX3_miss cX3_miss 3 none]
def wsX7_rehearse : List Cond := .code yX7_rehearse cX7_rehearse 2 none :: ((wsX7_rehearse_r1 ++ (wsX7_rehearse_r2 ++ (wsX7_rehearse_r3 ++ (wsX7_rehearse_r4 ++ wsX7_rehearse_r5)))) ++ wsX70 ++ wsX30 ++ wsX50 ++ wsX40 ++ wsX00)
def wsX7_take_r1 : List Cond := [Cond.fieldLink RX7 10 "LentSounds" "now" "LLentSounds$State;", Cond.fieldLink RX7 22 "LentSounds" "history" "LLentSounds$History;", Cond.fieldLink RX7 43 "LentSounds" "rehearsal" "LLentSounds$Rehearsal;", Cond.methodLink RX7 68 yX2_record, Cond.instanceMethod yX2_record, Cond.selects RX2 yX2_record yX2_record, Cond.initialized RX2, Cond.code yX2_record cX2_record 3 none, Cond.fieldLink RX2 17 "LentSounds$History" "size" "I", Cond.fieldLink RX2 11 "LentSounds$History" "states" "[LLentSounds$State;", Cond.methodLink RX2 22 yX2_dropOldest, Cond.instanceMethod yX2_dropOldest, Cond.selects RX2 yX2_dropOldest yX2_dropOldest, Cond.code yX2_dropOldest cX2_dropOldest 3 none, Cond.methodLink RX2 25 yX2_at, Cond.instanceMethod yX2_at, Cond.selects RX2 yX2_at yX2_at, Cond.code yX2_at cX2_at 2 (some (.object "LentSounds$State")), Cond.methodLink RX2 29 yX5_copyFrom, Cond.instanceMethod yX5_copyFrom, Cond.selects RX5 yX5_copyFrom yX5_copyFrom, Cond.initialized RX5, Cond.code yX5_copyFrom cX5_copyFrom 2 none, Cond.fieldLink RX5 14 "LentSounds$State" "soundShelves" "LLentSounds$Row;"]
def wsX7_take_r2 : List Cond := [Cond.fieldLink RX5 20 "LentSounds$State" "charges" "LLentSounds$Row;", Cond.fieldLink RX5 23 "LentSounds$State" "loudness" "LLentSounds$Row;", Cond.fieldLink RX5 26 "LentSounds$State" "handShelves" "LLentSounds$Row;", Cond.fieldLink RX5 32 "LentSounds$State" "cues" "LLentSounds$CueList;", Cond.fieldLink RX5 36 "LentSounds$State" "hands" "I", Cond.fieldLink RX5 40 "LentSounds$State" "carrying" "I", Cond.fieldLink RX5 43 "LentSounds$State" "takes" "I", Cond.fieldLink RX5 46 "LentSounds$State" "playedCues" "I", Cond.fieldLink RX5 49 "LentSounds$State" "missedCues" "I", Cond.fieldLink RX5 52 "LentSounds$State" "missedByEar" "I", Cond.methodLink RX5 59 yX4_copyFrom, Cond.instanceMethod yX4_copyFrom, Cond.selects RX4 yX4_copyFrom yX4_copyFrom, Cond.initialized RX4, Cond.code yX4_copyFrom cX4_copyFrom 3 none, Cond.fieldLink RX4 13 "LentSounds$Row" "cells" "[I", Cond.methodLink RX4 27 Lib.Math.min.name, Cond.static Lib.Math.min.name, Cond.initialized "java/lang/Math", Cond.code Lib.Math.min.name Lib.Math.min.code 2 (some .int), Cond.methodLink RX4 30 arraycopyName, Cond.native arraycopyName, Cond.static arraycopyName, Cond.initialized "java/lang/System"]
def wsX7_take_r3 : List Cond := [Cond.methodLink RX5 63 yX0_copyFrom, Cond.instanceMethod yX0_copyFrom, Cond.selects RX0 yX0_copyFrom yX0_copyFrom, Cond.initialized RX0, Cond.code yX0_copyFrom cX0_copyFrom 2 none, Cond.fieldLink RX0 23 "LentSounds$CueList" "ticks" "LLentSounds$Row;", Cond.fieldLink RX0 27 "LentSounds$CueList" "scenes" "LLentSounds$Row;", Cond.fieldLink RX0 30 "LentSounds$CueList" "sounds" "LLentSounds$Row;", Cond.fieldLink RX0 33 "LentSounds$CueList" "lengths" "LLentSounds$Row;", Cond.fieldLink RX0 9 "LentSounds$CueList" "size" "I", Cond.fieldLink RX0 15 "LentSounds$CueList" "capacity" "I", Cond.methodLink RX0 40 Lib.Math.min.name, Cond.methodLink RX0 36 yX4_copyFrom, Cond.methodLink RX7 136 yX7_rehearse, Cond.instanceMethod yX7_rehearse, Cond.selects RX7 yX7_rehearse yX7_rehearse, Cond.initialized RX7, Cond.code yX7_rehearse cX7_rehearse 2 none, Cond.methodLink RX7 238 yX3_begin, Cond.instanceMethod yX3_begin, Cond.selects RX3 yX3_begin yX3_begin, Cond.initialized RX3, Cond.code yX3_begin cX3_begin 5 none, Cond.fieldLink RX3 53 "LentSounds$Rehearsal" "hands" "I"]
def wsX7_take_r4 : List Cond := [Cond.fieldLink RX3 14 "LentSounds$Rehearsal" "charges" "LLentSounds$Row;", Cond.fieldLink RX3 26 "LentSounds$Rehearsal" "handShelves" "LLentSounds$Row;", Cond.methodLink RX3 66 yX4_copyFrom, Cond.methodLink RX3 72 yX4_get, Cond.instanceMethod yX4_get, Cond.selects RX4 yX4_get yX4_get, Cond.code yX4_get cX4_get 2 (some .int), Cond.methodLink RX3 76 yX4_put, Cond.instanceMethod yX4_put, Cond.selects RX4 yX4_put yX4_put, Cond.code yX4_put cX4_put 3 none, Cond.methodLink RX7 242 yX3_playTake, Cond.instanceMethod yX3_playTake, Cond.selects RX3 yX3_playTake yX3_playTake, Cond.code yX3_playTake cX3_playTake 3 none, Cond.fieldLink RX3 20 "LentSounds$Rehearsal" "latestScenes" "LLentSounds$Row;", Cond.fieldLink RX3 23 "LentSounds$Rehearsal" "latestEnds" "LLentSounds$Row;", Cond.fieldLink RX3 29 "LentSounds$Rehearsal" "freeFrom" "LLentSounds$Row;", Cond.fieldLink RX3 32 "LentSounds$Rehearsal" "handPlays" "LLentSounds$Row;", Cond.fieldLink RX3 35 "LentSounds$Rehearsal" "handWays" "LLentSounds$Row;", Cond.fieldLink RX3 47 "LentSounds$Rehearsal" "sceneMisses" "LLentSounds$Row;", Cond.fieldLink RX3 50 "LentSounds$Rehearsal" "sceneLoans" "LLentSounds$Row;", Cond.fieldLink RX3 57 "LentSounds$Rehearsal" "missedCues" "I", Cond.fieldLink RX3 60 "LentSounds$Rehearsal" "missedByEar" "I"]
def wsX7_take_r5 : List Cond := [Cond.methodLink RX3 80 yX4_fill, Cond.instanceMethod yX4_fill, Cond.selects RX4 yX4_fill yX4_fill, Cond.code yX4_fill cX4_fill 3 none, Cond.methodLink RX3 92 yX3_doCue, Cond.instanceMethod yX3_doCue, Cond.selects RX3 yX3_doCue yX3_doCue, Cond.code yX3_doCue cX3_doCue 6 none, Cond.fieldLink RX3 41 "LentSounds$Rehearsal" "reasons" "LLentSounds$Row;", Cond.methodLink RX3 105 yX3_nearestHand, Cond.instanceMethod yX3_nearestHand, Cond.selects RX3 yX3_nearestHand yX3_nearestHand, Cond.code yX3_nearestHand cX3_nearestHand 7 (some .int), Cond.methodLink RX3 130 yX3_wayTo, Cond.instanceMethod yX3_wayTo, Cond.selects RX3 yX3_wayTo yX3_wayTo, Cond.code yX3_wayTo cX3_wayTo 3 (some .int), Cond.methodLink RX3 133 Lib.Math.abs.name, Cond.static Lib.Math.abs.name, Cond.code Lib.Math.abs.name Lib.Math.abs.code 1 (some .int), Cond.methodLink RX3 109 yX3_reasonToMiss, Cond.instanceMethod yX3_reasonToMiss, Cond.selects RX3 yX3_reasonToMiss yX3_reasonToMiss, Cond.code yX3_reasonToMiss cX3_reasonToMiss 7 (some .int)]
def wsX7_take_r6 : List Cond := [Cond.methodLink RX3 123 yX3_isLent, Cond.instanceMethod yX3_isLent, Cond.selects RX3 yX3_isLent yX3_isLent, Cond.code yX3_isLent cX3_isLent 4 (some .boolean), Cond.methodLink RX3 113 yX3_play, Cond.instanceMethod yX3_play, Cond.selects RX3 yX3_play yX3_play, Cond.code yX3_play cX3_play 8 none, Cond.fieldLink RX3 38 "LentSounds$Rehearsal" "players" "LLentSounds$Row;", Cond.fieldLink RX3 44 "LentSounds$Rehearsal" "ways" "LLentSounds$Row;", Cond.methodLink RX3 138 yX4_increase, Cond.instanceMethod yX4_increase, Cond.selects RX4 yX4_increase yX4_increase, Cond.code yX4_increase cX4_increase 3 none, Cond.methodLink RX4 19 yX4_get, Cond.methodLink RX4 23 yX4_put, Cond.methodLink RX3 141 yX0_endOf, Cond.instanceMethod yX0_endOf, Cond.selects RX0 yX0_endOf yX0_endOf, Cond.code yX0_endOf cX0_endOf 2 (some .int), Cond.methodLink RX0 46 yX4_get, Cond.methodLink RX3 117 yX3_miss, Cond.instanceMethod yX3_miss, Cond.selects RX3 yX3_miss yX3_miss]
def wsX7_take_r7 : List Cond := [Cond.code yX3_miss cX3_miss 3 none, Cond.methodLink RX7 143 yX4_copyFrom]
def wsX7_take : List Cond := .code yX7_take cX7_take 1 (some .int) :: ((wsX7_take_r1 ++ (wsX7_take_r2 ++ (wsX7_take_r3 ++ (wsX7_take_r4 ++ (wsX7_take_r5 ++ (wsX7_take_r6 ++ wsX7_take_r7)))))) ++ wsX70 ++ wsX50 ++ wsX00 ++ wsX30 ++ wsX20 ++ wsX40)
def wsX7_type : List Cond := .code yX7_type cX7_type 2 (some .int) :: ([.fieldLink RX7 29 "LentSounds" "text" "LLentSounds$Text;", .methodLink RX7 164 yX6_append, .instanceMethod yX6_append, .selects RX6 yX6_append yX6_append, .initialized RX6, .code yX6_append cX6_append 2 none, .fieldLink RX6 20 "LentSounds$Text" "length" "I", .fieldLink RX6 14 "LentSounds$Text" "characters" "LLentSounds$Row;", .methodLink RX6 24 yX4_put, .instanceMethod yX4_put, .selects RX4 yX4_put yX4_put, .initialized RX4, .code yX4_put cX4_put 3 none, .fieldLink RX4 13 "LentSounds$Row" "cells" "[I"] ++ wsX70 ++ wsX60 ++ wsX40)
def wsX7_clearText : List Cond := .code yX7_clearText cX7_clearText 2 (some .int) :: ([.fieldLink RX7 29 "LentSounds" "text" "LLentSounds$Text;"] ++ wsX70 ++ wsX60)
def wsX7_undo_r1 : List Cond := [Cond.fieldLink RX7 22 "LentSounds" "history" "LLentSounds$History;", Cond.fieldLink RX7 10 "LentSounds" "now" "LLentSounds$State;", Cond.methodLink RX7 169 yX2_moveLatestTo, Cond.instanceMethod yX2_moveLatestTo, Cond.selects RX2 yX2_moveLatestTo yX2_moveLatestTo, Cond.initialized RX2, Cond.code yX2_moveLatestTo cX2_moveLatestTo 3 none, Cond.fieldLink RX2 17 "LentSounds$History" "size" "I", Cond.methodLink RX2 25 yX2_at, Cond.instanceMethod yX2_at, Cond.selects RX2 yX2_at yX2_at, Cond.code yX2_at cX2_at 2 (some (.object "LentSounds$State")), Cond.fieldLink RX2 11 "LentSounds$History" "states" "[LLentSounds$State;", Cond.methodLink RX2 29 yX5_copyFrom, Cond.instanceMethod yX5_copyFrom, Cond.selects RX5 yX5_copyFrom yX5_copyFrom, Cond.initialized RX5, Cond.code yX5_copyFrom cX5_copyFrom 2 none, Cond.fieldLink RX5 14 "LentSounds$State" "soundShelves" "LLentSounds$Row;", Cond.fieldLink RX5 20 "LentSounds$State" "charges" "LLentSounds$Row;", Cond.fieldLink RX5 23 "LentSounds$State" "loudness" "LLentSounds$Row;", Cond.fieldLink RX5 26 "LentSounds$State" "handShelves" "LLentSounds$Row;", Cond.fieldLink RX5 32 "LentSounds$State" "cues" "LLentSounds$CueList;", Cond.fieldLink RX5 36 "LentSounds$State" "hands" "I"]
def wsX7_undo_r2 : List Cond := [Cond.fieldLink RX5 40 "LentSounds$State" "carrying" "I", Cond.fieldLink RX5 43 "LentSounds$State" "takes" "I", Cond.fieldLink RX5 46 "LentSounds$State" "playedCues" "I", Cond.fieldLink RX5 49 "LentSounds$State" "missedCues" "I", Cond.fieldLink RX5 52 "LentSounds$State" "missedByEar" "I", Cond.methodLink RX5 59 yX4_copyFrom, Cond.instanceMethod yX4_copyFrom, Cond.selects RX4 yX4_copyFrom yX4_copyFrom, Cond.initialized RX4, Cond.code yX4_copyFrom cX4_copyFrom 3 none, Cond.fieldLink RX4 13 "LentSounds$Row" "cells" "[I", Cond.methodLink RX4 27 Lib.Math.min.name, Cond.static Lib.Math.min.name, Cond.initialized "java/lang/Math", Cond.code Lib.Math.min.name Lib.Math.min.code 2 (some .int), Cond.methodLink RX4 30 arraycopyName, Cond.native arraycopyName, Cond.static arraycopyName, Cond.initialized "java/lang/System", Cond.methodLink RX5 63 yX0_copyFrom, Cond.instanceMethod yX0_copyFrom, Cond.selects RX0 yX0_copyFrom yX0_copyFrom, Cond.initialized RX0, Cond.code yX0_copyFrom cX0_copyFrom 2 none]
def wsX7_undo_r3 : List Cond := [Cond.fieldLink RX0 23 "LentSounds$CueList" "ticks" "LLentSounds$Row;", Cond.fieldLink RX0 27 "LentSounds$CueList" "scenes" "LLentSounds$Row;", Cond.fieldLink RX0 30 "LentSounds$CueList" "sounds" "LLentSounds$Row;", Cond.fieldLink RX0 33 "LentSounds$CueList" "lengths" "LLentSounds$Row;", Cond.fieldLink RX0 9 "LentSounds$CueList" "size" "I", Cond.fieldLink RX0 15 "LentSounds$CueList" "capacity" "I", Cond.methodLink RX0 40 Lib.Math.min.name, Cond.methodLink RX0 36 yX4_copyFrom]
def wsX7_undo : List Cond := .code yX7_undo cX7_undo 1 (some .int) :: ((wsX7_undo_r1 ++ (wsX7_undo_r2 ++ wsX7_undo_r3)) ++ wsX70 ++ wsX20 ++ wsX50 ++ wsX40 ++ wsX00)
def wsX7_keep_r1 : List Cond := [Cond.fieldLink RX7 16 "LentSounds" "snapshot" "LLentSounds$State;", Cond.fieldLink RX7 10 "LentSounds" "now" "LLentSounds$State;", Cond.fieldLink RX7 47 "LentSounds" "hasSnapshot" "Z", Cond.methodLink RX7 172 yX5_copyFrom, Cond.instanceMethod yX5_copyFrom, Cond.selects RX5 yX5_copyFrom yX5_copyFrom, Cond.initialized RX5, Cond.code yX5_copyFrom cX5_copyFrom 2 none, Cond.fieldLink RX5 14 "LentSounds$State" "soundShelves" "LLentSounds$Row;", Cond.fieldLink RX5 20 "LentSounds$State" "charges" "LLentSounds$Row;", Cond.fieldLink RX5 23 "LentSounds$State" "loudness" "LLentSounds$Row;", Cond.fieldLink RX5 26 "LentSounds$State" "handShelves" "LLentSounds$Row;", Cond.fieldLink RX5 32 "LentSounds$State" "cues" "LLentSounds$CueList;", Cond.fieldLink RX5 36 "LentSounds$State" "hands" "I", Cond.fieldLink RX5 40 "LentSounds$State" "carrying" "I", Cond.fieldLink RX5 43 "LentSounds$State" "takes" "I", Cond.fieldLink RX5 46 "LentSounds$State" "playedCues" "I", Cond.fieldLink RX5 49 "LentSounds$State" "missedCues" "I", Cond.fieldLink RX5 52 "LentSounds$State" "missedByEar" "I", Cond.methodLink RX5 59 yX4_copyFrom, Cond.instanceMethod yX4_copyFrom, Cond.selects RX4 yX4_copyFrom yX4_copyFrom, Cond.initialized RX4, Cond.code yX4_copyFrom cX4_copyFrom 3 none]
def wsX7_keep_r2 : List Cond := [Cond.fieldLink RX4 13 "LentSounds$Row" "cells" "[I", Cond.methodLink RX4 27 Lib.Math.min.name, Cond.static Lib.Math.min.name, Cond.initialized "java/lang/Math", Cond.code Lib.Math.min.name Lib.Math.min.code 2 (some .int), Cond.methodLink RX4 30 arraycopyName, Cond.native arraycopyName, Cond.static arraycopyName, Cond.initialized "java/lang/System", Cond.methodLink RX5 63 yX0_copyFrom, Cond.instanceMethod yX0_copyFrom, Cond.selects RX0 yX0_copyFrom yX0_copyFrom, Cond.initialized RX0, Cond.code yX0_copyFrom cX0_copyFrom 2 none, Cond.fieldLink RX0 23 "LentSounds$CueList" "ticks" "LLentSounds$Row;", Cond.fieldLink RX0 27 "LentSounds$CueList" "scenes" "LLentSounds$Row;", Cond.fieldLink RX0 30 "LentSounds$CueList" "sounds" "LLentSounds$Row;", Cond.fieldLink RX0 33 "LentSounds$CueList" "lengths" "LLentSounds$Row;", Cond.fieldLink RX0 9 "LentSounds$CueList" "size" "I", Cond.fieldLink RX0 15 "LentSounds$CueList" "capacity" "I", Cond.methodLink RX0 40 Lib.Math.min.name, Cond.methodLink RX0 36 yX4_copyFrom]
def wsX7_keep : List Cond := .code yX7_keep cX7_keep 1 (some .int) :: ((wsX7_keep_r1 ++ wsX7_keep_r2) ++ wsX70 ++ wsX50 ++ wsX00 ++ wsX40)
def wsX7_restore_r1 : List Cond := [Cond.fieldLink RX7 47 "LentSounds" "hasSnapshot" "Z", Cond.fieldLink RX7 22 "LentSounds" "history" "LLentSounds$History;", Cond.fieldLink RX7 10 "LentSounds" "now" "LLentSounds$State;", Cond.fieldLink RX7 16 "LentSounds" "snapshot" "LLentSounds$State;", Cond.methodLink RX7 68 yX2_record, Cond.instanceMethod yX2_record, Cond.selects RX2 yX2_record yX2_record, Cond.initialized RX2, Cond.code yX2_record cX2_record 3 none, Cond.fieldLink RX2 17 "LentSounds$History" "size" "I", Cond.fieldLink RX2 11 "LentSounds$History" "states" "[LLentSounds$State;", Cond.methodLink RX2 22 yX2_dropOldest, Cond.instanceMethod yX2_dropOldest, Cond.selects RX2 yX2_dropOldest yX2_dropOldest, Cond.code yX2_dropOldest cX2_dropOldest 3 none, Cond.methodLink RX2 25 yX2_at, Cond.instanceMethod yX2_at, Cond.selects RX2 yX2_at yX2_at, Cond.code yX2_at cX2_at 2 (some (.object "LentSounds$State")), Cond.methodLink RX2 29 yX5_copyFrom, Cond.instanceMethod yX5_copyFrom, Cond.selects RX5 yX5_copyFrom yX5_copyFrom, Cond.initialized RX5, Cond.code yX5_copyFrom cX5_copyFrom 2 none]
def wsX7_restore_r2 : List Cond := [Cond.fieldLink RX5 14 "LentSounds$State" "soundShelves" "LLentSounds$Row;", Cond.fieldLink RX5 20 "LentSounds$State" "charges" "LLentSounds$Row;", Cond.fieldLink RX5 23 "LentSounds$State" "loudness" "LLentSounds$Row;", Cond.fieldLink RX5 26 "LentSounds$State" "handShelves" "LLentSounds$Row;", Cond.fieldLink RX5 32 "LentSounds$State" "cues" "LLentSounds$CueList;", Cond.fieldLink RX5 36 "LentSounds$State" "hands" "I", Cond.fieldLink RX5 40 "LentSounds$State" "carrying" "I", Cond.fieldLink RX5 43 "LentSounds$State" "takes" "I", Cond.fieldLink RX5 46 "LentSounds$State" "playedCues" "I", Cond.fieldLink RX5 49 "LentSounds$State" "missedCues" "I", Cond.fieldLink RX5 52 "LentSounds$State" "missedByEar" "I", Cond.methodLink RX5 59 yX4_copyFrom, Cond.instanceMethod yX4_copyFrom, Cond.selects RX4 yX4_copyFrom yX4_copyFrom, Cond.initialized RX4, Cond.code yX4_copyFrom cX4_copyFrom 3 none, Cond.fieldLink RX4 13 "LentSounds$Row" "cells" "[I", Cond.methodLink RX4 27 Lib.Math.min.name, Cond.static Lib.Math.min.name, Cond.initialized "java/lang/Math", Cond.code Lib.Math.min.name Lib.Math.min.code 2 (some .int), Cond.methodLink RX4 30 arraycopyName, Cond.native arraycopyName, Cond.static arraycopyName]
def wsX7_restore_r3 : List Cond := [Cond.initialized "java/lang/System", Cond.methodLink RX5 63 yX0_copyFrom, Cond.instanceMethod yX0_copyFrom, Cond.selects RX0 yX0_copyFrom yX0_copyFrom, Cond.initialized RX0, Cond.code yX0_copyFrom cX0_copyFrom 2 none, Cond.fieldLink RX0 23 "LentSounds$CueList" "ticks" "LLentSounds$Row;", Cond.fieldLink RX0 27 "LentSounds$CueList" "scenes" "LLentSounds$Row;", Cond.fieldLink RX0 30 "LentSounds$CueList" "sounds" "LLentSounds$Row;", Cond.fieldLink RX0 33 "LentSounds$CueList" "lengths" "LLentSounds$Row;", Cond.fieldLink RX0 9 "LentSounds$CueList" "size" "I", Cond.fieldLink RX0 15 "LentSounds$CueList" "capacity" "I", Cond.methodLink RX0 40 Lib.Math.min.name, Cond.methodLink RX0 36 yX4_copyFrom, Cond.methodLink RX7 172 yX5_copyFrom]
def wsX7_restore : List Cond := .code yX7_restore cX7_restore 1 (some .int) :: ((wsX7_restore_r1 ++ (wsX7_restore_r2 ++ wsX7_restore_r3)) ++ wsX70 ++ wsX50 ++ wsX00 ++ wsX20 ++ wsX40)
def wsX7_sound_r1 : List Cond := [Cond.fieldLink RX7 10 "LentSounds" "now" "LLentSounds$State;", Cond.fieldLink RX7 43 "LentSounds" "rehearsal" "LLentSounds$Rehearsal;", Cond.methodLink RX7 187 Lib.Math.max.name, Cond.static Lib.Math.max.name, Cond.initialized "java/lang/Math", Cond.code Lib.Math.max.name Lib.Math.max.code 2 (some .int), Cond.methodLink RX7 51 yX7_isBelow, Cond.static yX7_isBelow, Cond.initialized RX7, Cond.code yX7_isBelow cX7_isBelow 2 (some .boolean), Cond.methodLink RX7 62 yX4_get, Cond.instanceMethod yX4_get, Cond.selects RX4 yX4_get yX4_get, Cond.initialized RX4, Cond.code yX4_get cX4_get 2 (some .int), Cond.fieldLink RX4 13 "LentSounds$Row" "cells" "[I", Cond.methodLink RX7 180 yX0_sizeOfSound, Cond.instanceMethod yX0_sizeOfSound, Cond.selects RX0 yX0_sizeOfSound yX0_sizeOfSound, Cond.initialized RX0, Cond.code yX0_sizeOfSound cX0_sizeOfSound 2 (some .int), Cond.fieldLink RX0 30 "LentSounds$CueList" "sounds" "LLentSounds$Row;", Cond.methodLink RX0 70 yX0_timesIn, Cond.instanceMethod yX0_timesIn]
def wsX7_sound_r2 : List Cond := [Cond.selects RX0 yX0_timesIn yX0_timesIn, Cond.code yX0_timesIn cX0_timesIn 5 (some .int), Cond.fieldLink RX0 9 "LentSounds$CueList" "size" "I", Cond.methodLink RX0 46 yX4_get, Cond.methodLink RX7 136 yX7_rehearse, Cond.instanceMethod yX7_rehearse, Cond.selects RX7 yX7_rehearse yX7_rehearse, Cond.code yX7_rehearse cX7_rehearse 2 none, Cond.methodLink RX7 238 yX3_begin, Cond.instanceMethod yX3_begin, Cond.selects RX3 yX3_begin yX3_begin, Cond.initialized RX3, Cond.code yX3_begin cX3_begin 5 none, Cond.fieldLink RX3 53 "LentSounds$Rehearsal" "hands" "I", Cond.fieldLink RX3 14 "LentSounds$Rehearsal" "charges" "LLentSounds$Row;", Cond.fieldLink RX3 26 "LentSounds$Rehearsal" "handShelves" "LLentSounds$Row;", Cond.methodLink RX3 66 yX4_copyFrom, Cond.instanceMethod yX4_copyFrom, Cond.selects RX4 yX4_copyFrom yX4_copyFrom, Cond.code yX4_copyFrom cX4_copyFrom 3 none, Cond.methodLink RX4 27 Lib.Math.min.name, Cond.static Lib.Math.min.name, Cond.code Lib.Math.min.name Lib.Math.min.code 2 (some .int), Cond.methodLink RX4 30 arraycopyName]
def wsX7_sound_r3 : List Cond := [Cond.native arraycopyName, Cond.static arraycopyName, Cond.initialized "java/lang/System", Cond.methodLink RX3 72 yX4_get, Cond.methodLink RX3 76 yX4_put, Cond.instanceMethod yX4_put, Cond.selects RX4 yX4_put yX4_put, Cond.code yX4_put cX4_put 3 none, Cond.methodLink RX7 242 yX3_playTake, Cond.instanceMethod yX3_playTake, Cond.selects RX3 yX3_playTake yX3_playTake, Cond.code yX3_playTake cX3_playTake 3 none, Cond.fieldLink RX3 20 "LentSounds$Rehearsal" "latestScenes" "LLentSounds$Row;", Cond.fieldLink RX3 23 "LentSounds$Rehearsal" "latestEnds" "LLentSounds$Row;", Cond.fieldLink RX3 29 "LentSounds$Rehearsal" "freeFrom" "LLentSounds$Row;", Cond.fieldLink RX3 32 "LentSounds$Rehearsal" "handPlays" "LLentSounds$Row;", Cond.fieldLink RX3 35 "LentSounds$Rehearsal" "handWays" "LLentSounds$Row;", Cond.fieldLink RX3 47 "LentSounds$Rehearsal" "sceneMisses" "LLentSounds$Row;", Cond.fieldLink RX3 50 "LentSounds$Rehearsal" "sceneLoans" "LLentSounds$Row;", Cond.fieldLink RX3 57 "LentSounds$Rehearsal" "missedCues" "I", Cond.fieldLink RX3 60 "LentSounds$Rehearsal" "missedByEar" "I", Cond.methodLink RX3 80 yX4_fill, Cond.instanceMethod yX4_fill, Cond.selects RX4 yX4_fill yX4_fill]
def wsX7_sound_r4 : List Cond := [Cond.code yX4_fill cX4_fill 3 none, Cond.methodLink RX3 92 yX3_doCue, Cond.instanceMethod yX3_doCue, Cond.selects RX3 yX3_doCue yX3_doCue, Cond.code yX3_doCue cX3_doCue 6 none, Cond.fieldLink RX3 41 "LentSounds$Rehearsal" "reasons" "LLentSounds$Row;", Cond.methodLink RX3 105 yX3_nearestHand, Cond.instanceMethod yX3_nearestHand, Cond.selects RX3 yX3_nearestHand yX3_nearestHand, Cond.code yX3_nearestHand cX3_nearestHand 7 (some .int), Cond.methodLink RX3 130 yX3_wayTo, Cond.instanceMethod yX3_wayTo, Cond.selects RX3 yX3_wayTo yX3_wayTo, Cond.code yX3_wayTo cX3_wayTo 3 (some .int), Cond.methodLink RX3 133 Lib.Math.abs.name, Cond.static Lib.Math.abs.name, Cond.code Lib.Math.abs.name Lib.Math.abs.code 1 (some .int), Cond.methodLink RX3 109 yX3_reasonToMiss, Cond.instanceMethod yX3_reasonToMiss, Cond.selects RX3 yX3_reasonToMiss yX3_reasonToMiss, Cond.code yX3_reasonToMiss cX3_reasonToMiss 7 (some .int), Cond.methodLink RX3 123 yX3_isLent, Cond.instanceMethod yX3_isLent, Cond.selects RX3 yX3_isLent yX3_isLent]
def wsX7_sound_r5 : List Cond := [Cond.code yX3_isLent cX3_isLent 4 (some .boolean), Cond.methodLink RX3 113 yX3_play, Cond.instanceMethod yX3_play, Cond.selects RX3 yX3_play yX3_play, Cond.code yX3_play cX3_play 8 none, Cond.fieldLink RX3 38 "LentSounds$Rehearsal" "players" "LLentSounds$Row;", Cond.fieldLink RX3 44 "LentSounds$Rehearsal" "ways" "LLentSounds$Row;", Cond.methodLink RX3 138 yX4_increase, Cond.instanceMethod yX4_increase, Cond.selects RX4 yX4_increase yX4_increase, Cond.code yX4_increase cX4_increase 3 none, Cond.methodLink RX4 19 yX4_get, Cond.methodLink RX4 23 yX4_put, Cond.methodLink RX3 141 yX0_endOf, Cond.instanceMethod yX0_endOf, Cond.selects RX0 yX0_endOf yX0_endOf, Cond.code yX0_endOf cX0_endOf 2 (some .int), Cond.fieldLink RX0 23 "LentSounds$CueList" "ticks" "LLentSounds$Row;", Cond.fieldLink RX0 33 "LentSounds$CueList" "lengths" "LLentSounds$Row;", Cond.methodLink RX3 117 yX3_miss, Cond.instanceMethod yX3_miss, Cond.selects RX3 yX3_miss yX3_miss, Cond.code yX3_miss cX3_miss 3 none, Cond.methodLink RX7 183 yX3_playsOfSound]
def wsX7_sound_r6 : List Cond := [Cond.instanceMethod yX3_playsOfSound, Cond.selects RX3 yX3_playsOfSound yX3_playsOfSound, Cond.code yX3_playsOfSound cX3_playsOfSound 5 (some .int)]
def wsX7_sound : List Cond := .code yX7_sound cX7_sound 3 (some .int) :: ((wsX7_sound_r1 ++ (wsX7_sound_r2 ++ (wsX7_sound_r3 ++ (wsX7_sound_r4 ++ (wsX7_sound_r5 ++ wsX7_sound_r6))))) ++ wsX70 ++ wsX50 ++ wsX40 ++ wsX00 ++ wsX30)
def wsX7_cue_r1 : List Cond := [Cond.fieldLink RX7 10 "LentSounds" "now" "LLentSounds$State;", Cond.fieldLink RX7 43 "LentSounds" "rehearsal" "LLentSounds$Rehearsal;", Cond.methodLink RX7 51 yX7_isBelow, Cond.static yX7_isBelow, Cond.initialized RX7, Cond.code yX7_isBelow cX7_isBelow 2 (some .boolean), Cond.methodLink RX7 62 yX4_get, Cond.instanceMethod yX4_get, Cond.selects RX4 yX4_get yX4_get, Cond.initialized RX4, Cond.code yX4_get cX4_get 2 (some .int), Cond.fieldLink RX4 13 "LentSounds$Row" "cells" "[I", Cond.methodLink RX7 136 yX7_rehearse, Cond.instanceMethod yX7_rehearse, Cond.selects RX7 yX7_rehearse yX7_rehearse, Cond.code yX7_rehearse cX7_rehearse 2 none, Cond.methodLink RX7 238 yX3_begin, Cond.instanceMethod yX3_begin, Cond.selects RX3 yX3_begin yX3_begin, Cond.initialized RX3, Cond.code yX3_begin cX3_begin 5 none, Cond.fieldLink RX3 53 "LentSounds$Rehearsal" "hands" "I", Cond.fieldLink RX3 14 "LentSounds$Rehearsal" "charges" "LLentSounds$Row;", Cond.fieldLink RX3 26 "LentSounds$Rehearsal" "handShelves" "LLentSounds$Row;"]
def wsX7_cue_r2 : List Cond := [Cond.methodLink RX3 66 yX4_copyFrom, Cond.instanceMethod yX4_copyFrom, Cond.selects RX4 yX4_copyFrom yX4_copyFrom, Cond.code yX4_copyFrom cX4_copyFrom 3 none, Cond.methodLink RX4 27 Lib.Math.min.name, Cond.static Lib.Math.min.name, Cond.initialized "java/lang/Math", Cond.code Lib.Math.min.name Lib.Math.min.code 2 (some .int), Cond.methodLink RX4 30 arraycopyName, Cond.native arraycopyName, Cond.static arraycopyName, Cond.initialized "java/lang/System", Cond.methodLink RX3 72 yX4_get, Cond.methodLink RX3 76 yX4_put, Cond.instanceMethod yX4_put, Cond.selects RX4 yX4_put yX4_put, Cond.code yX4_put cX4_put 3 none, Cond.methodLink RX7 242 yX3_playTake, Cond.instanceMethod yX3_playTake, Cond.selects RX3 yX3_playTake yX3_playTake, Cond.code yX3_playTake cX3_playTake 3 none, Cond.fieldLink RX3 20 "LentSounds$Rehearsal" "latestScenes" "LLentSounds$Row;", Cond.fieldLink RX3 23 "LentSounds$Rehearsal" "latestEnds" "LLentSounds$Row;", Cond.fieldLink RX3 29 "LentSounds$Rehearsal" "freeFrom" "LLentSounds$Row;"]
def wsX7_cue_r3 : List Cond := [Cond.fieldLink RX3 32 "LentSounds$Rehearsal" "handPlays" "LLentSounds$Row;", Cond.fieldLink RX3 35 "LentSounds$Rehearsal" "handWays" "LLentSounds$Row;", Cond.fieldLink RX3 47 "LentSounds$Rehearsal" "sceneMisses" "LLentSounds$Row;", Cond.fieldLink RX3 50 "LentSounds$Rehearsal" "sceneLoans" "LLentSounds$Row;", Cond.fieldLink RX3 57 "LentSounds$Rehearsal" "missedCues" "I", Cond.fieldLink RX3 60 "LentSounds$Rehearsal" "missedByEar" "I", Cond.methodLink RX3 80 yX4_fill, Cond.instanceMethod yX4_fill, Cond.selects RX4 yX4_fill yX4_fill, Cond.code yX4_fill cX4_fill 3 none, Cond.methodLink RX3 92 yX3_doCue, Cond.instanceMethod yX3_doCue, Cond.selects RX3 yX3_doCue yX3_doCue, Cond.code yX3_doCue cX3_doCue 6 none, Cond.fieldLink RX3 41 "LentSounds$Rehearsal" "reasons" "LLentSounds$Row;", Cond.methodLink RX3 105 yX3_nearestHand, Cond.instanceMethod yX3_nearestHand, Cond.selects RX3 yX3_nearestHand yX3_nearestHand, Cond.code yX3_nearestHand cX3_nearestHand 7 (some .int), Cond.methodLink RX3 130 yX3_wayTo, Cond.instanceMethod yX3_wayTo, Cond.selects RX3 yX3_wayTo yX3_wayTo, Cond.code yX3_wayTo cX3_wayTo 3 (some .int), Cond.methodLink RX3 133 Lib.Math.abs.name]
def wsX7_cue_r4 : List Cond := [Cond.static Lib.Math.abs.name, Cond.code Lib.Math.abs.name Lib.Math.abs.code 1 (some .int), Cond.methodLink RX3 109 yX3_reasonToMiss, Cond.instanceMethod yX3_reasonToMiss, Cond.selects RX3 yX3_reasonToMiss yX3_reasonToMiss, Cond.code yX3_reasonToMiss cX3_reasonToMiss 7 (some .int), Cond.methodLink RX3 123 yX3_isLent, Cond.instanceMethod yX3_isLent, Cond.selects RX3 yX3_isLent yX3_isLent, Cond.code yX3_isLent cX3_isLent 4 (some .boolean), Cond.methodLink RX3 113 yX3_play, Cond.instanceMethod yX3_play, Cond.selects RX3 yX3_play yX3_play, Cond.code yX3_play cX3_play 8 none, Cond.fieldLink RX3 38 "LentSounds$Rehearsal" "players" "LLentSounds$Row;", Cond.fieldLink RX3 44 "LentSounds$Rehearsal" "ways" "LLentSounds$Row;", Cond.methodLink RX3 138 yX4_increase, Cond.instanceMethod yX4_increase, Cond.selects RX4 yX4_increase yX4_increase, Cond.code yX4_increase cX4_increase 3 none, Cond.methodLink RX4 19 yX4_get, Cond.methodLink RX4 23 yX4_put, Cond.methodLink RX3 141 yX0_endOf, Cond.instanceMethod yX0_endOf]
def wsX7_cue_r5 : List Cond := [Cond.selects RX0 yX0_endOf yX0_endOf, Cond.initialized RX0, Cond.code yX0_endOf cX0_endOf 2 (some .int), Cond.fieldLink RX0 23 "LentSounds$CueList" "ticks" "LLentSounds$Row;", Cond.fieldLink RX0 33 "LentSounds$CueList" "lengths" "LLentSounds$Row;", Cond.methodLink RX0 46 yX4_get, Cond.methodLink RX3 117 yX3_miss, Cond.instanceMethod yX3_miss, Cond.selects RX3 yX3_miss yX3_miss, Cond.code yX3_miss cX3_miss 3 none]
def wsX7_cue : List Cond := .code yX7_cue cX7_cue 3 (some .int) :: ((wsX7_cue_r1 ++ (wsX7_cue_r2 ++ (wsX7_cue_r3 ++ (wsX7_cue_r4 ++ wsX7_cue_r5)))) ++ wsX70 ++ wsX50 ++ wsX00 ++ wsX30 ++ wsX40)
def wsX7_hand_r1 : List Cond := [Cond.fieldLink RX7 10 "LentSounds" "now" "LLentSounds$State;", Cond.fieldLink RX7 43 "LentSounds" "rehearsal" "LLentSounds$Rehearsal;", Cond.methodLink RX7 51 yX7_isBelow, Cond.static yX7_isBelow, Cond.initialized RX7, Cond.code yX7_isBelow cX7_isBelow 2 (some .boolean), Cond.methodLink RX7 136 yX7_rehearse, Cond.instanceMethod yX7_rehearse, Cond.selects RX7 yX7_rehearse yX7_rehearse, Cond.code yX7_rehearse cX7_rehearse 2 none, Cond.methodLink RX7 238 yX3_begin, Cond.instanceMethod yX3_begin, Cond.selects RX3 yX3_begin yX3_begin, Cond.initialized RX3, Cond.code yX3_begin cX3_begin 5 none, Cond.fieldLink RX3 53 "LentSounds$Rehearsal" "hands" "I", Cond.fieldLink RX3 14 "LentSounds$Rehearsal" "charges" "LLentSounds$Row;", Cond.fieldLink RX3 26 "LentSounds$Rehearsal" "handShelves" "LLentSounds$Row;", Cond.methodLink RX3 66 yX4_copyFrom, Cond.instanceMethod yX4_copyFrom, Cond.selects RX4 yX4_copyFrom yX4_copyFrom, Cond.initialized RX4, Cond.code yX4_copyFrom cX4_copyFrom 3 none, Cond.fieldLink RX4 13 "LentSounds$Row" "cells" "[I"]
def wsX7_hand_r2 : List Cond := [Cond.methodLink RX4 27 Lib.Math.min.name, Cond.static Lib.Math.min.name, Cond.initialized "java/lang/Math", Cond.code Lib.Math.min.name Lib.Math.min.code 2 (some .int), Cond.methodLink RX4 30 arraycopyName, Cond.native arraycopyName, Cond.static arraycopyName, Cond.initialized "java/lang/System", Cond.methodLink RX3 72 yX4_get, Cond.instanceMethod yX4_get, Cond.selects RX4 yX4_get yX4_get, Cond.code yX4_get cX4_get 2 (some .int), Cond.methodLink RX3 76 yX4_put, Cond.instanceMethod yX4_put, Cond.selects RX4 yX4_put yX4_put, Cond.code yX4_put cX4_put 3 none, Cond.methodLink RX7 242 yX3_playTake, Cond.instanceMethod yX3_playTake, Cond.selects RX3 yX3_playTake yX3_playTake, Cond.code yX3_playTake cX3_playTake 3 none, Cond.fieldLink RX3 20 "LentSounds$Rehearsal" "latestScenes" "LLentSounds$Row;", Cond.fieldLink RX3 23 "LentSounds$Rehearsal" "latestEnds" "LLentSounds$Row;", Cond.fieldLink RX3 29 "LentSounds$Rehearsal" "freeFrom" "LLentSounds$Row;", Cond.fieldLink RX3 32 "LentSounds$Rehearsal" "handPlays" "LLentSounds$Row;"]
def wsX7_hand_r3 : List Cond := [Cond.fieldLink RX3 35 "LentSounds$Rehearsal" "handWays" "LLentSounds$Row;", Cond.fieldLink RX3 47 "LentSounds$Rehearsal" "sceneMisses" "LLentSounds$Row;", Cond.fieldLink RX3 50 "LentSounds$Rehearsal" "sceneLoans" "LLentSounds$Row;", Cond.fieldLink RX3 57 "LentSounds$Rehearsal" "missedCues" "I", Cond.fieldLink RX3 60 "LentSounds$Rehearsal" "missedByEar" "I", Cond.methodLink RX3 80 yX4_fill, Cond.instanceMethod yX4_fill, Cond.selects RX4 yX4_fill yX4_fill, Cond.code yX4_fill cX4_fill 3 none, Cond.methodLink RX3 92 yX3_doCue, Cond.instanceMethod yX3_doCue, Cond.selects RX3 yX3_doCue yX3_doCue, Cond.code yX3_doCue cX3_doCue 6 none, Cond.fieldLink RX3 41 "LentSounds$Rehearsal" "reasons" "LLentSounds$Row;", Cond.methodLink RX3 105 yX3_nearestHand, Cond.instanceMethod yX3_nearestHand, Cond.selects RX3 yX3_nearestHand yX3_nearestHand, Cond.code yX3_nearestHand cX3_nearestHand 7 (some .int), Cond.methodLink RX3 130 yX3_wayTo, Cond.instanceMethod yX3_wayTo, Cond.selects RX3 yX3_wayTo yX3_wayTo, Cond.code yX3_wayTo cX3_wayTo 3 (some .int), Cond.methodLink RX3 133 Lib.Math.abs.name, Cond.static Lib.Math.abs.name]
def wsX7_hand_r4 : List Cond := [Cond.code Lib.Math.abs.name Lib.Math.abs.code 1 (some .int), Cond.methodLink RX3 109 yX3_reasonToMiss, Cond.instanceMethod yX3_reasonToMiss, Cond.selects RX3 yX3_reasonToMiss yX3_reasonToMiss, Cond.code yX3_reasonToMiss cX3_reasonToMiss 7 (some .int), Cond.methodLink RX3 123 yX3_isLent, Cond.instanceMethod yX3_isLent, Cond.selects RX3 yX3_isLent yX3_isLent, Cond.code yX3_isLent cX3_isLent 4 (some .boolean), Cond.methodLink RX3 113 yX3_play, Cond.instanceMethod yX3_play, Cond.selects RX3 yX3_play yX3_play, Cond.code yX3_play cX3_play 8 none, Cond.fieldLink RX3 38 "LentSounds$Rehearsal" "players" "LLentSounds$Row;", Cond.fieldLink RX3 44 "LentSounds$Rehearsal" "ways" "LLentSounds$Row;", Cond.methodLink RX3 138 yX4_increase, Cond.instanceMethod yX4_increase, Cond.selects RX4 yX4_increase yX4_increase, Cond.code yX4_increase cX4_increase 3 none, Cond.methodLink RX4 19 yX4_get, Cond.methodLink RX4 23 yX4_put, Cond.methodLink RX3 141 yX0_endOf, Cond.instanceMethod yX0_endOf, Cond.selects RX0 yX0_endOf yX0_endOf]
def wsX7_hand_r5 : List Cond := [Cond.initialized RX0, Cond.code yX0_endOf cX0_endOf 2 (some .int), Cond.fieldLink RX0 23 "LentSounds$CueList" "ticks" "LLentSounds$Row;", Cond.fieldLink RX0 33 "LentSounds$CueList" "lengths" "LLentSounds$Row;", Cond.methodLink RX0 46 yX4_get, Cond.methodLink RX3 117 yX3_miss, Cond.instanceMethod yX3_miss, Cond.selects RX3 yX3_miss yX3_miss, Cond.code yX3_miss cX3_miss 3 none, Cond.methodLink RX7 62 yX4_get]
def wsX7_hand : List Cond := .code yX7_hand cX7_hand 3 (some .int) :: ((wsX7_hand_r1 ++ (wsX7_hand_r2 ++ (wsX7_hand_r3 ++ (wsX7_hand_r4 ++ wsX7_hand_r5)))) ++ wsX70 ++ wsX50 ++ wsX30 ++ wsX40 ++ wsX00)
def wsX7_scene_r1 : List Cond := [Cond.fieldLink RX7 10 "LentSounds" "now" "LLentSounds$State;", Cond.fieldLink RX7 43 "LentSounds" "rehearsal" "LLentSounds$Rehearsal;", Cond.methodLink RX7 51 yX7_isBelow, Cond.static yX7_isBelow, Cond.initialized RX7, Cond.code yX7_isBelow cX7_isBelow 2 (some .boolean), Cond.methodLink RX7 127 yX0_sizeOfScene, Cond.instanceMethod yX0_sizeOfScene, Cond.selects RX0 yX0_sizeOfScene yX0_sizeOfScene, Cond.initialized RX0, Cond.code yX0_sizeOfScene cX0_sizeOfScene 2 (some .int), Cond.fieldLink RX0 27 "LentSounds$CueList" "scenes" "LLentSounds$Row;", Cond.methodLink RX0 70 yX0_timesIn, Cond.instanceMethod yX0_timesIn, Cond.selects RX0 yX0_timesIn yX0_timesIn, Cond.code yX0_timesIn cX0_timesIn 5 (some .int), Cond.fieldLink RX0 9 "LentSounds$CueList" "size" "I", Cond.methodLink RX0 46 yX4_get, Cond.instanceMethod yX4_get, Cond.selects RX4 yX4_get yX4_get, Cond.initialized RX4, Cond.code yX4_get cX4_get 2 (some .int), Cond.fieldLink RX4 13 "LentSounds$Row" "cells" "[I", Cond.methodLink RX7 223 yX0_firstTick]
def wsX7_scene_r2 : List Cond := [Cond.instanceMethod yX0_firstTick, Cond.selects RX0 yX0_firstTick yX0_firstTick, Cond.code yX0_firstTick cX0_firstTick 3 (some .int), Cond.fieldLink RX0 23 "LentSounds$CueList" "ticks" "LLentSounds$Row;", Cond.methodLink RX7 226 yX0_greatestEnd, Cond.instanceMethod yX0_greatestEnd, Cond.selects RX0 yX0_greatestEnd yX0_greatestEnd, Cond.code yX0_greatestEnd cX0_greatestEnd 4 (some .int), Cond.methodLink RX0 77 Lib.Math.max.name, Cond.static Lib.Math.max.name, Cond.initialized "java/lang/Math", Cond.code Lib.Math.max.name Lib.Math.max.code 2 (some .int), Cond.methodLink RX0 74 yX0_endOf, Cond.instanceMethod yX0_endOf, Cond.selects RX0 yX0_endOf yX0_endOf, Cond.code yX0_endOf cX0_endOf 2 (some .int), Cond.fieldLink RX0 33 "LentSounds$CueList" "lengths" "LLentSounds$Row;", Cond.methodLink RX7 136 yX7_rehearse, Cond.instanceMethod yX7_rehearse, Cond.selects RX7 yX7_rehearse yX7_rehearse, Cond.code yX7_rehearse cX7_rehearse 2 none, Cond.methodLink RX7 238 yX3_begin, Cond.instanceMethod yX3_begin, Cond.selects RX3 yX3_begin yX3_begin]
def wsX7_scene_r3 : List Cond := [Cond.initialized RX3, Cond.code yX3_begin cX3_begin 5 none, Cond.fieldLink RX3 53 "LentSounds$Rehearsal" "hands" "I", Cond.fieldLink RX3 14 "LentSounds$Rehearsal" "charges" "LLentSounds$Row;", Cond.fieldLink RX3 26 "LentSounds$Rehearsal" "handShelves" "LLentSounds$Row;", Cond.methodLink RX3 66 yX4_copyFrom, Cond.instanceMethod yX4_copyFrom, Cond.selects RX4 yX4_copyFrom yX4_copyFrom, Cond.code yX4_copyFrom cX4_copyFrom 3 none, Cond.methodLink RX4 27 Lib.Math.min.name, Cond.static Lib.Math.min.name, Cond.code Lib.Math.min.name Lib.Math.min.code 2 (some .int), Cond.methodLink RX4 30 arraycopyName, Cond.native arraycopyName, Cond.static arraycopyName, Cond.initialized "java/lang/System", Cond.methodLink RX3 72 yX4_get, Cond.methodLink RX3 76 yX4_put, Cond.instanceMethod yX4_put, Cond.selects RX4 yX4_put yX4_put, Cond.code yX4_put cX4_put 3 none, Cond.methodLink RX7 242 yX3_playTake, Cond.instanceMethod yX3_playTake, Cond.selects RX3 yX3_playTake yX3_playTake]
def wsX7_scene_r4 : List Cond := [Cond.code yX3_playTake cX3_playTake 3 none, Cond.fieldLink RX3 20 "LentSounds$Rehearsal" "latestScenes" "LLentSounds$Row;", Cond.fieldLink RX3 23 "LentSounds$Rehearsal" "latestEnds" "LLentSounds$Row;", Cond.fieldLink RX3 29 "LentSounds$Rehearsal" "freeFrom" "LLentSounds$Row;", Cond.fieldLink RX3 32 "LentSounds$Rehearsal" "handPlays" "LLentSounds$Row;", Cond.fieldLink RX3 35 "LentSounds$Rehearsal" "handWays" "LLentSounds$Row;", Cond.fieldLink RX3 47 "LentSounds$Rehearsal" "sceneMisses" "LLentSounds$Row;", Cond.fieldLink RX3 50 "LentSounds$Rehearsal" "sceneLoans" "LLentSounds$Row;", Cond.fieldLink RX3 57 "LentSounds$Rehearsal" "missedCues" "I", Cond.fieldLink RX3 60 "LentSounds$Rehearsal" "missedByEar" "I", Cond.methodLink RX3 80 yX4_fill, Cond.instanceMethod yX4_fill, Cond.selects RX4 yX4_fill yX4_fill, Cond.code yX4_fill cX4_fill 3 none, Cond.methodLink RX3 92 yX3_doCue, Cond.instanceMethod yX3_doCue, Cond.selects RX3 yX3_doCue yX3_doCue, Cond.code yX3_doCue cX3_doCue 6 none, Cond.fieldLink RX3 41 "LentSounds$Rehearsal" "reasons" "LLentSounds$Row;", Cond.methodLink RX3 105 yX3_nearestHand, Cond.instanceMethod yX3_nearestHand, Cond.selects RX3 yX3_nearestHand yX3_nearestHand, Cond.code yX3_nearestHand cX3_nearestHand 7 (some .int), Cond.methodLink RX3 130 yX3_wayTo]
def wsX7_scene_r5 : List Cond := [Cond.instanceMethod yX3_wayTo, Cond.selects RX3 yX3_wayTo yX3_wayTo, Cond.code yX3_wayTo cX3_wayTo 3 (some .int), Cond.methodLink RX3 133 Lib.Math.abs.name, Cond.static Lib.Math.abs.name, Cond.code Lib.Math.abs.name Lib.Math.abs.code 1 (some .int), Cond.methodLink RX3 109 yX3_reasonToMiss, Cond.instanceMethod yX3_reasonToMiss, Cond.selects RX3 yX3_reasonToMiss yX3_reasonToMiss, Cond.code yX3_reasonToMiss cX3_reasonToMiss 7 (some .int), Cond.methodLink RX3 123 yX3_isLent, Cond.instanceMethod yX3_isLent, Cond.selects RX3 yX3_isLent yX3_isLent, Cond.code yX3_isLent cX3_isLent 4 (some .boolean), Cond.methodLink RX3 113 yX3_play, Cond.instanceMethod yX3_play, Cond.selects RX3 yX3_play yX3_play, Cond.code yX3_play cX3_play 8 none, Cond.fieldLink RX3 38 "LentSounds$Rehearsal" "players" "LLentSounds$Row;", Cond.fieldLink RX3 44 "LentSounds$Rehearsal" "ways" "LLentSounds$Row;", Cond.methodLink RX3 138 yX4_increase, Cond.instanceMethod yX4_increase, Cond.selects RX4 yX4_increase yX4_increase, Cond.code yX4_increase cX4_increase 3 none]
def wsX7_scene_r6 : List Cond := [Cond.methodLink RX4 19 yX4_get, Cond.methodLink RX4 23 yX4_put, Cond.methodLink RX3 141 yX0_endOf, Cond.methodLink RX3 117 yX3_miss, Cond.instanceMethod yX3_miss, Cond.selects RX3 yX3_miss yX3_miss, Cond.code yX3_miss cX3_miss 3 none, Cond.methodLink RX7 62 yX4_get]
def wsX7_scene : List Cond := .code yX7_scene cX7_scene 3 (some .int) :: ((wsX7_scene_r1 ++ (wsX7_scene_r2 ++ (wsX7_scene_r3 ++ (wsX7_scene_r4 ++ (wsX7_scene_r5 ++ wsX7_scene_r6))))) ++ wsX70 ++ wsX50 ++ wsX30 ++ wsX00 ++ wsX40)
def wsX7_missed_r1 : List Cond := [Cond.fieldLink RX7 10 "LentSounds" "now" "LLentSounds$State;", Cond.fieldLink RX7 43 "LentSounds" "rehearsal" "LLentSounds$Rehearsal;", Cond.methodLink RX7 136 yX7_rehearse, Cond.instanceMethod yX7_rehearse, Cond.selects RX7 yX7_rehearse yX7_rehearse, Cond.initialized RX7, Cond.code yX7_rehearse cX7_rehearse 2 none, Cond.methodLink RX7 238 yX3_begin, Cond.instanceMethod yX3_begin, Cond.selects RX3 yX3_begin yX3_begin, Cond.initialized RX3, Cond.code yX3_begin cX3_begin 5 none, Cond.fieldLink RX3 53 "LentSounds$Rehearsal" "hands" "I", Cond.fieldLink RX3 14 "LentSounds$Rehearsal" "charges" "LLentSounds$Row;", Cond.fieldLink RX3 26 "LentSounds$Rehearsal" "handShelves" "LLentSounds$Row;", Cond.methodLink RX3 66 yX4_copyFrom, Cond.instanceMethod yX4_copyFrom, Cond.selects RX4 yX4_copyFrom yX4_copyFrom, Cond.initialized RX4, Cond.code yX4_copyFrom cX4_copyFrom 3 none, Cond.fieldLink RX4 13 "LentSounds$Row" "cells" "[I", Cond.methodLink RX4 27 Lib.Math.min.name, Cond.static Lib.Math.min.name, Cond.initialized "java/lang/Math"]
def wsX7_missed_r2 : List Cond := [Cond.code Lib.Math.min.name Lib.Math.min.code 2 (some .int), Cond.methodLink RX4 30 arraycopyName, Cond.native arraycopyName, Cond.static arraycopyName, Cond.initialized "java/lang/System", Cond.methodLink RX3 72 yX4_get, Cond.instanceMethod yX4_get, Cond.selects RX4 yX4_get yX4_get, Cond.code yX4_get cX4_get 2 (some .int), Cond.methodLink RX3 76 yX4_put, Cond.instanceMethod yX4_put, Cond.selects RX4 yX4_put yX4_put, Cond.code yX4_put cX4_put 3 none, Cond.methodLink RX7 242 yX3_playTake, Cond.instanceMethod yX3_playTake, Cond.selects RX3 yX3_playTake yX3_playTake, Cond.code yX3_playTake cX3_playTake 3 none, Cond.fieldLink RX3 20 "LentSounds$Rehearsal" "latestScenes" "LLentSounds$Row;", Cond.fieldLink RX3 23 "LentSounds$Rehearsal" "latestEnds" "LLentSounds$Row;", Cond.fieldLink RX3 29 "LentSounds$Rehearsal" "freeFrom" "LLentSounds$Row;", Cond.fieldLink RX3 32 "LentSounds$Rehearsal" "handPlays" "LLentSounds$Row;", Cond.fieldLink RX3 35 "LentSounds$Rehearsal" "handWays" "LLentSounds$Row;", Cond.fieldLink RX3 47 "LentSounds$Rehearsal" "sceneMisses" "LLentSounds$Row;", Cond.fieldLink RX3 50 "LentSounds$Rehearsal" "sceneLoans" "LLentSounds$Row;"]
def wsX7_missed_r3 : List Cond := [Cond.fieldLink RX3 57 "LentSounds$Rehearsal" "missedCues" "I", Cond.fieldLink RX3 60 "LentSounds$Rehearsal" "missedByEar" "I", Cond.methodLink RX3 80 yX4_fill, Cond.instanceMethod yX4_fill, Cond.selects RX4 yX4_fill yX4_fill, Cond.code yX4_fill cX4_fill 3 none, Cond.methodLink RX3 92 yX3_doCue, Cond.instanceMethod yX3_doCue, Cond.selects RX3 yX3_doCue yX3_doCue, Cond.code yX3_doCue cX3_doCue 6 none, Cond.fieldLink RX3 41 "LentSounds$Rehearsal" "reasons" "LLentSounds$Row;", Cond.methodLink RX3 105 yX3_nearestHand, Cond.instanceMethod yX3_nearestHand, Cond.selects RX3 yX3_nearestHand yX3_nearestHand, Cond.code yX3_nearestHand cX3_nearestHand 7 (some .int), Cond.methodLink RX3 130 yX3_wayTo, Cond.instanceMethod yX3_wayTo, Cond.selects RX3 yX3_wayTo yX3_wayTo, Cond.code yX3_wayTo cX3_wayTo 3 (some .int), Cond.methodLink RX3 133 Lib.Math.abs.name, Cond.static Lib.Math.abs.name, Cond.code Lib.Math.abs.name Lib.Math.abs.code 1 (some .int), Cond.methodLink RX3 109 yX3_reasonToMiss, Cond.instanceMethod yX3_reasonToMiss]
def wsX7_missed_r4 : List Cond := [Cond.selects RX3 yX3_reasonToMiss yX3_reasonToMiss, Cond.code yX3_reasonToMiss cX3_reasonToMiss 7 (some .int), Cond.methodLink RX3 123 yX3_isLent, Cond.instanceMethod yX3_isLent, Cond.selects RX3 yX3_isLent yX3_isLent, Cond.code yX3_isLent cX3_isLent 4 (some .boolean), Cond.methodLink RX3 113 yX3_play, Cond.instanceMethod yX3_play, Cond.selects RX3 yX3_play yX3_play, Cond.code yX3_play cX3_play 8 none, Cond.fieldLink RX3 38 "LentSounds$Rehearsal" "players" "LLentSounds$Row;", Cond.fieldLink RX3 44 "LentSounds$Rehearsal" "ways" "LLentSounds$Row;", Cond.methodLink RX3 138 yX4_increase, Cond.instanceMethod yX4_increase, Cond.selects RX4 yX4_increase yX4_increase, Cond.code yX4_increase cX4_increase 3 none, Cond.methodLink RX4 19 yX4_get, Cond.methodLink RX4 23 yX4_put, Cond.methodLink RX3 141 yX0_endOf, Cond.instanceMethod yX0_endOf, Cond.selects RX0 yX0_endOf yX0_endOf, Cond.initialized RX0, Cond.code yX0_endOf cX0_endOf 2 (some .int), Cond.fieldLink RX0 23 "LentSounds$CueList" "ticks" "LLentSounds$Row;"]
def wsX7_missed_r5 : List Cond := [Cond.fieldLink RX0 33 "LentSounds$CueList" "lengths" "LLentSounds$Row;", Cond.methodLink RX0 46 yX4_get, Cond.methodLink RX3 117 yX3_miss, Cond.instanceMethod yX3_miss, Cond.selects RX3 yX3_miss yX3_miss, Cond.code yX3_miss cX3_miss 3 none, Cond.methodLink RX7 235 yX3_missedCue, Cond.instanceMethod yX3_missedCue, Cond.selects RX3 yX3_missedCue yX3_missedCue, Cond.code yX3_missedCue cX3_missedCue 5 (some .int)]
def wsX7_missed : List Cond := .code yX7_missed cX7_missed 2 (some .int) :: ((wsX7_missed_r1 ++ (wsX7_missed_r2 ++ (wsX7_missed_r3 ++ (wsX7_missed_r4 ++ wsX7_missed_r5)))) ++ wsX70 ++ wsX50 ++ wsX00 ++ wsX30 ++ wsX40)
def wsX7_ifHands_r1 : List Cond := [Cond.fieldLink RX7 43 "LentSounds" "rehearsal" "LLentSounds$Rehearsal;", Cond.methodLink RX7 76 yX7_isWithin, Cond.static yX7_isWithin, Cond.initialized RX7, Cond.code yX7_isWithin cX7_isWithin 3 (some .boolean), Cond.methodLink RX7 136 yX7_rehearse, Cond.instanceMethod yX7_rehearse, Cond.selects RX7 yX7_rehearse yX7_rehearse, Cond.code yX7_rehearse cX7_rehearse 2 none, Cond.fieldLink RX7 10 "LentSounds" "now" "LLentSounds$State;", Cond.methodLink RX7 238 yX3_begin, Cond.instanceMethod yX3_begin, Cond.selects RX3 yX3_begin yX3_begin, Cond.initialized RX3, Cond.code yX3_begin cX3_begin 5 none, Cond.fieldLink RX3 53 "LentSounds$Rehearsal" "hands" "I", Cond.fieldLink RX3 14 "LentSounds$Rehearsal" "charges" "LLentSounds$Row;", Cond.fieldLink RX3 26 "LentSounds$Rehearsal" "handShelves" "LLentSounds$Row;", Cond.methodLink RX3 66 yX4_copyFrom, Cond.instanceMethod yX4_copyFrom, Cond.selects RX4 yX4_copyFrom yX4_copyFrom, Cond.initialized RX4, Cond.code yX4_copyFrom cX4_copyFrom 3 none, Cond.fieldLink RX4 13 "LentSounds$Row" "cells" "[I"]
def wsX7_ifHands_r2 : List Cond := [Cond.methodLink RX4 27 Lib.Math.min.name, Cond.static Lib.Math.min.name, Cond.initialized "java/lang/Math", Cond.code Lib.Math.min.name Lib.Math.min.code 2 (some .int), Cond.methodLink RX4 30 arraycopyName, Cond.native arraycopyName, Cond.static arraycopyName, Cond.initialized "java/lang/System", Cond.methodLink RX3 72 yX4_get, Cond.instanceMethod yX4_get, Cond.selects RX4 yX4_get yX4_get, Cond.code yX4_get cX4_get 2 (some .int), Cond.methodLink RX3 76 yX4_put, Cond.instanceMethod yX4_put, Cond.selects RX4 yX4_put yX4_put, Cond.code yX4_put cX4_put 3 none, Cond.methodLink RX7 242 yX3_playTake, Cond.instanceMethod yX3_playTake, Cond.selects RX3 yX3_playTake yX3_playTake, Cond.code yX3_playTake cX3_playTake 3 none, Cond.fieldLink RX3 20 "LentSounds$Rehearsal" "latestScenes" "LLentSounds$Row;", Cond.fieldLink RX3 23 "LentSounds$Rehearsal" "latestEnds" "LLentSounds$Row;", Cond.fieldLink RX3 29 "LentSounds$Rehearsal" "freeFrom" "LLentSounds$Row;", Cond.fieldLink RX3 32 "LentSounds$Rehearsal" "handPlays" "LLentSounds$Row;"]
def wsX7_ifHands_r3 : List Cond := [Cond.fieldLink RX3 35 "LentSounds$Rehearsal" "handWays" "LLentSounds$Row;", Cond.fieldLink RX3 47 "LentSounds$Rehearsal" "sceneMisses" "LLentSounds$Row;", Cond.fieldLink RX3 50 "LentSounds$Rehearsal" "sceneLoans" "LLentSounds$Row;", Cond.fieldLink RX3 57 "LentSounds$Rehearsal" "missedCues" "I", Cond.fieldLink RX3 60 "LentSounds$Rehearsal" "missedByEar" "I", Cond.methodLink RX3 80 yX4_fill, Cond.instanceMethod yX4_fill, Cond.selects RX4 yX4_fill yX4_fill, Cond.code yX4_fill cX4_fill 3 none, Cond.methodLink RX3 92 yX3_doCue, Cond.instanceMethod yX3_doCue, Cond.selects RX3 yX3_doCue yX3_doCue, Cond.code yX3_doCue cX3_doCue 6 none, Cond.fieldLink RX3 41 "LentSounds$Rehearsal" "reasons" "LLentSounds$Row;", Cond.methodLink RX3 105 yX3_nearestHand, Cond.instanceMethod yX3_nearestHand, Cond.selects RX3 yX3_nearestHand yX3_nearestHand, Cond.code yX3_nearestHand cX3_nearestHand 7 (some .int), Cond.methodLink RX3 130 yX3_wayTo, Cond.instanceMethod yX3_wayTo, Cond.selects RX3 yX3_wayTo yX3_wayTo, Cond.code yX3_wayTo cX3_wayTo 3 (some .int), Cond.methodLink RX3 133 Lib.Math.abs.name, Cond.static Lib.Math.abs.name]
def wsX7_ifHands_r4 : List Cond := [Cond.code Lib.Math.abs.name Lib.Math.abs.code 1 (some .int), Cond.methodLink RX3 109 yX3_reasonToMiss, Cond.instanceMethod yX3_reasonToMiss, Cond.selects RX3 yX3_reasonToMiss yX3_reasonToMiss, Cond.code yX3_reasonToMiss cX3_reasonToMiss 7 (some .int), Cond.methodLink RX3 123 yX3_isLent, Cond.instanceMethod yX3_isLent, Cond.selects RX3 yX3_isLent yX3_isLent, Cond.code yX3_isLent cX3_isLent 4 (some .boolean), Cond.methodLink RX3 113 yX3_play, Cond.instanceMethod yX3_play, Cond.selects RX3 yX3_play yX3_play, Cond.code yX3_play cX3_play 8 none, Cond.fieldLink RX3 38 "LentSounds$Rehearsal" "players" "LLentSounds$Row;", Cond.fieldLink RX3 44 "LentSounds$Rehearsal" "ways" "LLentSounds$Row;", Cond.methodLink RX3 138 yX4_increase, Cond.instanceMethod yX4_increase, Cond.selects RX4 yX4_increase yX4_increase, Cond.code yX4_increase cX4_increase 3 none, Cond.methodLink RX4 19 yX4_get, Cond.methodLink RX4 23 yX4_put, Cond.methodLink RX3 141 yX0_endOf, Cond.instanceMethod yX0_endOf, Cond.selects RX0 yX0_endOf yX0_endOf]
def wsX7_ifHands_r5 : List Cond := [Cond.initialized RX0, Cond.code yX0_endOf cX0_endOf 2 (some .int), Cond.fieldLink RX0 23 "LentSounds$CueList" "ticks" "LLentSounds$Row;", Cond.fieldLink RX0 33 "LentSounds$CueList" "lengths" "LLentSounds$Row;", Cond.methodLink RX0 46 yX4_get, Cond.methodLink RX3 117 yX3_miss, Cond.instanceMethod yX3_miss, Cond.selects RX3 yX3_miss yX3_miss, Cond.code yX3_miss cX3_miss 3 none]
def wsX7_ifHands : List Cond := .code yX7_ifHands cX7_ifHands 2 (some .int) :: ((wsX7_ifHands_r1 ++ (wsX7_ifHands_r2 ++ (wsX7_ifHands_r3 ++ (wsX7_ifHands_r4 ++ wsX7_ifHands_r5)))) ++ wsX70 ++ wsX30 ++ wsX50 ++ wsX40 ++ wsX00)
def wsX7_cleanTakes_r1 : List Cond := [Cond.fieldLink RX7 10 "LentSounds" "now" "LLentSounds$State;", Cond.fieldLink RX7 43 "LentSounds" "rehearsal" "LLentSounds$Rehearsal;", Cond.methodLink RX7 238 yX3_begin, Cond.instanceMethod yX3_begin, Cond.selects RX3 yX3_begin yX3_begin, Cond.initialized RX3, Cond.code yX3_begin cX3_begin 5 none, Cond.fieldLink RX3 53 "LentSounds$Rehearsal" "hands" "I", Cond.fieldLink RX3 14 "LentSounds$Rehearsal" "charges" "LLentSounds$Row;", Cond.fieldLink RX3 26 "LentSounds$Rehearsal" "handShelves" "LLentSounds$Row;", Cond.methodLink RX3 66 yX4_copyFrom, Cond.instanceMethod yX4_copyFrom, Cond.selects RX4 yX4_copyFrom yX4_copyFrom, Cond.initialized RX4, Cond.code yX4_copyFrom cX4_copyFrom 3 none, Cond.fieldLink RX4 13 "LentSounds$Row" "cells" "[I", Cond.methodLink RX4 27 Lib.Math.min.name, Cond.static Lib.Math.min.name, Cond.initialized "java/lang/Math", Cond.code Lib.Math.min.name Lib.Math.min.code 2 (some .int), Cond.methodLink RX4 30 arraycopyName, Cond.native arraycopyName, Cond.static arraycopyName, Cond.initialized "java/lang/System"]
def wsX7_cleanTakes_r2 : List Cond := [Cond.methodLink RX3 72 yX4_get, Cond.instanceMethod yX4_get, Cond.selects RX4 yX4_get yX4_get, Cond.code yX4_get cX4_get 2 (some .int), Cond.methodLink RX3 76 yX4_put, Cond.instanceMethod yX4_put, Cond.selects RX4 yX4_put yX4_put, Cond.code yX4_put cX4_put 3 none, Cond.methodLink RX7 242 yX3_playTake, Cond.instanceMethod yX3_playTake, Cond.selects RX3 yX3_playTake yX3_playTake, Cond.code yX3_playTake cX3_playTake 3 none, Cond.fieldLink RX3 20 "LentSounds$Rehearsal" "latestScenes" "LLentSounds$Row;", Cond.fieldLink RX3 23 "LentSounds$Rehearsal" "latestEnds" "LLentSounds$Row;", Cond.fieldLink RX3 29 "LentSounds$Rehearsal" "freeFrom" "LLentSounds$Row;", Cond.fieldLink RX3 32 "LentSounds$Rehearsal" "handPlays" "LLentSounds$Row;", Cond.fieldLink RX3 35 "LentSounds$Rehearsal" "handWays" "LLentSounds$Row;", Cond.fieldLink RX3 47 "LentSounds$Rehearsal" "sceneMisses" "LLentSounds$Row;", Cond.fieldLink RX3 50 "LentSounds$Rehearsal" "sceneLoans" "LLentSounds$Row;", Cond.fieldLink RX3 57 "LentSounds$Rehearsal" "missedCues" "I", Cond.fieldLink RX3 60 "LentSounds$Rehearsal" "missedByEar" "I", Cond.methodLink RX3 80 yX4_fill, Cond.instanceMethod yX4_fill, Cond.selects RX4 yX4_fill yX4_fill]
def wsX7_cleanTakes_r3 : List Cond := [Cond.code yX4_fill cX4_fill 3 none, Cond.methodLink RX3 92 yX3_doCue, Cond.instanceMethod yX3_doCue, Cond.selects RX3 yX3_doCue yX3_doCue, Cond.code yX3_doCue cX3_doCue 6 none, Cond.fieldLink RX3 41 "LentSounds$Rehearsal" "reasons" "LLentSounds$Row;", Cond.methodLink RX3 105 yX3_nearestHand, Cond.instanceMethod yX3_nearestHand, Cond.selects RX3 yX3_nearestHand yX3_nearestHand, Cond.code yX3_nearestHand cX3_nearestHand 7 (some .int), Cond.methodLink RX3 130 yX3_wayTo, Cond.instanceMethod yX3_wayTo, Cond.selects RX3 yX3_wayTo yX3_wayTo, Cond.code yX3_wayTo cX3_wayTo 3 (some .int), Cond.methodLink RX3 133 Lib.Math.abs.name, Cond.static Lib.Math.abs.name, Cond.code Lib.Math.abs.name Lib.Math.abs.code 1 (some .int), Cond.methodLink RX3 109 yX3_reasonToMiss, Cond.instanceMethod yX3_reasonToMiss, Cond.selects RX3 yX3_reasonToMiss yX3_reasonToMiss, Cond.code yX3_reasonToMiss cX3_reasonToMiss 7 (some .int), Cond.methodLink RX3 123 yX3_isLent, Cond.instanceMethod yX3_isLent, Cond.selects RX3 yX3_isLent yX3_isLent]
def wsX7_cleanTakes_r4 : List Cond := [Cond.code yX3_isLent cX3_isLent 4 (some .boolean), Cond.methodLink RX3 113 yX3_play, Cond.instanceMethod yX3_play, Cond.selects RX3 yX3_play yX3_play, Cond.code yX3_play cX3_play 8 none, Cond.fieldLink RX3 38 "LentSounds$Rehearsal" "players" "LLentSounds$Row;", Cond.fieldLink RX3 44 "LentSounds$Rehearsal" "ways" "LLentSounds$Row;", Cond.methodLink RX3 138 yX4_increase, Cond.instanceMethod yX4_increase, Cond.selects RX4 yX4_increase yX4_increase, Cond.code yX4_increase cX4_increase 3 none, Cond.methodLink RX4 19 yX4_get, Cond.methodLink RX4 23 yX4_put, Cond.methodLink RX3 141 yX0_endOf, Cond.instanceMethod yX0_endOf, Cond.selects RX0 yX0_endOf yX0_endOf, Cond.initialized RX0, Cond.code yX0_endOf cX0_endOf 2 (some .int), Cond.fieldLink RX0 23 "LentSounds$CueList" "ticks" "LLentSounds$Row;", Cond.fieldLink RX0 33 "LentSounds$CueList" "lengths" "LLentSounds$Row;", Cond.methodLink RX0 46 yX4_get, Cond.methodLink RX3 117 yX3_miss, Cond.instanceMethod yX3_miss, Cond.selects RX3 yX3_miss yX3_miss]
def wsX7_cleanTakes_r5 : List Cond := [Cond.code yX3_miss cX3_miss 3 none]
def wsX7_cleanTakes : List Cond := .code yX7_cleanTakes cX7_cleanTakes 2 (some .int) :: ((wsX7_cleanTakes_r1 ++ (wsX7_cleanTakes_r2 ++ (wsX7_cleanTakes_r3 ++ (wsX7_cleanTakes_r4 ++ wsX7_cleanTakes_r5)))) ++ wsX70 ++ wsX50 ++ wsX00 ++ wsX30 ++ wsX40)
def wsX7_count_r1 : List Cond := [Cond.fieldLink RX7 10 "LentSounds" "now" "LLentSounds$State;", Cond.fieldLink RX7 43 "LentSounds" "rehearsal" "LLentSounds$Rehearsal;", Cond.fieldLink RX7 22 "LentSounds" "history" "LLentSounds$History;", Cond.fieldLink RX7 29 "LentSounds" "text" "LLentSounds$Text;", Cond.methodLink RX7 136 yX7_rehearse, Cond.instanceMethod yX7_rehearse, Cond.selects RX7 yX7_rehearse yX7_rehearse, Cond.initialized RX7, Cond.code yX7_rehearse cX7_rehearse 2 none, Cond.methodLink RX7 238 yX3_begin, Cond.instanceMethod yX3_begin, Cond.selects RX3 yX3_begin yX3_begin, Cond.initialized RX3, Cond.code yX3_begin cX3_begin 5 none, Cond.fieldLink RX3 53 "LentSounds$Rehearsal" "hands" "I", Cond.fieldLink RX3 14 "LentSounds$Rehearsal" "charges" "LLentSounds$Row;", Cond.fieldLink RX3 26 "LentSounds$Rehearsal" "handShelves" "LLentSounds$Row;", Cond.methodLink RX3 66 yX4_copyFrom, Cond.instanceMethod yX4_copyFrom, Cond.selects RX4 yX4_copyFrom yX4_copyFrom, Cond.initialized RX4, Cond.code yX4_copyFrom cX4_copyFrom 3 none, Cond.fieldLink RX4 13 "LentSounds$Row" "cells" "[I", Cond.methodLink RX4 27 Lib.Math.min.name]
def wsX7_count_r2 : List Cond := [Cond.static Lib.Math.min.name, Cond.initialized "java/lang/Math", Cond.code Lib.Math.min.name Lib.Math.min.code 2 (some .int), Cond.methodLink RX4 30 arraycopyName, Cond.native arraycopyName, Cond.static arraycopyName, Cond.initialized "java/lang/System", Cond.methodLink RX3 72 yX4_get, Cond.instanceMethod yX4_get, Cond.selects RX4 yX4_get yX4_get, Cond.code yX4_get cX4_get 2 (some .int), Cond.methodLink RX3 76 yX4_put, Cond.instanceMethod yX4_put, Cond.selects RX4 yX4_put yX4_put, Cond.code yX4_put cX4_put 3 none, Cond.methodLink RX7 242 yX3_playTake, Cond.instanceMethod yX3_playTake, Cond.selects RX3 yX3_playTake yX3_playTake, Cond.code yX3_playTake cX3_playTake 3 none, Cond.fieldLink RX3 20 "LentSounds$Rehearsal" "latestScenes" "LLentSounds$Row;", Cond.fieldLink RX3 23 "LentSounds$Rehearsal" "latestEnds" "LLentSounds$Row;", Cond.fieldLink RX3 29 "LentSounds$Rehearsal" "freeFrom" "LLentSounds$Row;", Cond.fieldLink RX3 32 "LentSounds$Rehearsal" "handPlays" "LLentSounds$Row;", Cond.fieldLink RX3 35 "LentSounds$Rehearsal" "handWays" "LLentSounds$Row;"]
def wsX7_count_r3 : List Cond := [Cond.fieldLink RX3 47 "LentSounds$Rehearsal" "sceneMisses" "LLentSounds$Row;", Cond.fieldLink RX3 50 "LentSounds$Rehearsal" "sceneLoans" "LLentSounds$Row;", Cond.fieldLink RX3 57 "LentSounds$Rehearsal" "missedCues" "I", Cond.fieldLink RX3 60 "LentSounds$Rehearsal" "missedByEar" "I", Cond.methodLink RX3 80 yX4_fill, Cond.instanceMethod yX4_fill, Cond.selects RX4 yX4_fill yX4_fill, Cond.code yX4_fill cX4_fill 3 none, Cond.methodLink RX3 92 yX3_doCue, Cond.instanceMethod yX3_doCue, Cond.selects RX3 yX3_doCue yX3_doCue, Cond.code yX3_doCue cX3_doCue 6 none, Cond.fieldLink RX3 41 "LentSounds$Rehearsal" "reasons" "LLentSounds$Row;", Cond.methodLink RX3 105 yX3_nearestHand, Cond.instanceMethod yX3_nearestHand, Cond.selects RX3 yX3_nearestHand yX3_nearestHand, Cond.code yX3_nearestHand cX3_nearestHand 7 (some .int), Cond.methodLink RX3 130 yX3_wayTo, Cond.instanceMethod yX3_wayTo, Cond.selects RX3 yX3_wayTo yX3_wayTo, Cond.code yX3_wayTo cX3_wayTo 3 (some .int), Cond.methodLink RX3 133 Lib.Math.abs.name, Cond.static Lib.Math.abs.name, Cond.code Lib.Math.abs.name Lib.Math.abs.code 1 (some .int)]
def wsX7_count_r4 : List Cond := [Cond.methodLink RX3 109 yX3_reasonToMiss, Cond.instanceMethod yX3_reasonToMiss, Cond.selects RX3 yX3_reasonToMiss yX3_reasonToMiss, Cond.code yX3_reasonToMiss cX3_reasonToMiss 7 (some .int), Cond.methodLink RX3 123 yX3_isLent, Cond.instanceMethod yX3_isLent, Cond.selects RX3 yX3_isLent yX3_isLent, Cond.code yX3_isLent cX3_isLent 4 (some .boolean), Cond.methodLink RX3 113 yX3_play, Cond.instanceMethod yX3_play, Cond.selects RX3 yX3_play yX3_play, Cond.code yX3_play cX3_play 8 none, Cond.fieldLink RX3 38 "LentSounds$Rehearsal" "players" "LLentSounds$Row;", Cond.fieldLink RX3 44 "LentSounds$Rehearsal" "ways" "LLentSounds$Row;", Cond.methodLink RX3 138 yX4_increase, Cond.instanceMethod yX4_increase, Cond.selects RX4 yX4_increase yX4_increase, Cond.code yX4_increase cX4_increase 3 none, Cond.methodLink RX4 19 yX4_get, Cond.methodLink RX4 23 yX4_put, Cond.methodLink RX3 141 yX0_endOf, Cond.instanceMethod yX0_endOf, Cond.selects RX0 yX0_endOf yX0_endOf, Cond.initialized RX0]
def wsX7_count_r5 : List Cond := [Cond.code yX0_endOf cX0_endOf 2 (some .int), Cond.fieldLink RX0 23 "LentSounds$CueList" "ticks" "LLentSounds$Row;", Cond.fieldLink RX0 33 "LentSounds$CueList" "lengths" "LLentSounds$Row;", Cond.methodLink RX0 46 yX4_get, Cond.methodLink RX3 117 yX3_miss, Cond.instanceMethod yX3_miss, Cond.selects RX3 yX3_miss yX3_miss, Cond.code yX3_miss cX3_miss 3 none, Cond.methodLink RX7 245 yX4_sum, Cond.instanceMethod yX4_sum, Cond.selects RX4 yX4_sum yX4_sum, Cond.code yX4_sum cX4_sum 3 (some .int)]
def wsX7_count : List Cond := .code yX7_count cX7_count 2 (some .int) :: ((wsX7_count_r1 ++ (wsX7_count_r2 ++ (wsX7_count_r3 ++ (wsX7_count_r4 ++ wsX7_count_r5)))) ++ wsX70 ++ wsX50 ++ wsX00 ++ wsX30 ++ wsX20 ++ wsX60 ++ wsX40)
def wsX8_init : List Cond := .code yX8_init cX8_init 2 none :: ([.methodLink RX8 1 objectInit, .instanceMethod objectInit, .code objectInit ⟨#[0xb1]⟩ 1 none, .arrayClass .int, .fieldLink RX8 7 "LentSoundsModel" "all" "[I", .fieldLink RX8 13 "LentSoundsModel" "kept" "[I", .fieldLink RX8 16 "LentSoundsModel" "tried" "[I", .fieldLink RX8 19 "LentSoundsModel" "history" "[I", .fieldLink RX8 22 "LentSoundsModel" "snapshot" "[I", .fieldLink RX8 25 "LentSoundsModel" "handOf" "[I", .fieldLink RX8 28 "LentSoundsModel" "reasonOf" "[I", .fieldLink RX8 31 "LentSoundsModel" "wayOf" "[I", .fieldLink RX8 34 "LentSoundsModel" "isLent" "[I", .fieldLink RX8 37 "LentSoundsModel" "freeFrom" "[I", .fieldLink RX8 40 "LentSoundsModel" "playedBy" "[I", .fieldLink RX8 43 "LentSoundsModel" "walkedBy" "[I", .fieldLink RX8 46 "LentSoundsModel" "usedIn" "[I", .fieldLink RX8 49 "LentSoundsModel" "usedTill" "[I", .fieldLink RX8 52 "LentSoundsModel" "then" "[I", .fieldLink RX8 55 "LentSoundsModel" "text" "[I", .fieldLink RX8 58 "LentSoundsModel" "read" "[I"] ++ wsX80)
def wsX8_in : List Cond := .code yX8_in cX8_in 6 (some .boolean) :: ([])
def wsX8_copy : List Cond := .code yX8_copy cX8_copy 3 none :: ([])
def wsX8_remember : List Cond := .code yX8_remember cX8_remember 1 none :: ([.fieldLink RX8 7 "LentSoundsModel" "all" "[I", .fieldLink RX8 13 "LentSoundsModel" "kept" "[I", .methodLink RX8 61 yX8_copy, .static yX8_copy, .initialized RX8, .code yX8_copy cX8_copy 3 none] ++ wsX80)
def wsX8_acted : List Cond := .code yX8_acted cX8_acted 3 (some .int) :: ([.fieldLink RX8 65 "LentSoundsModel" "historyLong" "I", .fieldLink RX8 19 "LentSoundsModel" "history" "[I", .fieldLink RX8 13 "LentSoundsModel" "kept" "[I"] ++ wsX80)
def wsX8_of : List Cond := .code yX8_of cX8_of 3 (some .int) :: ([.fieldLink RX8 7 "LentSoundsModel" "all" "[I"] ++ wsX80)
def wsX8_isCue : List Cond := .code yX8_isCue cX8_isCue 2 (some .boolean) :: ([.fieldLink RX8 7 "LentSoundsModel" "all" "[I", .methodLink RX8 69 yX8_in, .static yX8_in, .initialized RX8, .code yX8_in cX8_in 6 (some .boolean)] ++ wsX80)
def wsX8_isScene : List Cond := .code yX8_isScene cX8_isScene 1 (some .boolean) :: ([.constantLong RX8 73 (5), .methodLink RX8 69 yX8_in, .static yX8_in, .initialized RX8, .code yX8_in cX8_in 6 (some .boolean)])
def wsX8_isSound : List Cond := .code yX8_isSound cX8_isSound 1 (some .boolean) :: ([.constantLong RX8 75 (9), .methodLink RX8 69 yX8_in, .static yX8_in, .initialized RX8, .code yX8_in cX8_in 6 (some .boolean)])
def wsX8_rankOf : List Cond := .code yX8_rankOf cX8_rankOf 3 (some .int) :: ([])
def wsX8_rankAt : List Cond := .code yX8_rankAt cX8_rankAt 2 (some .int) :: ([.methodLink RX8 77 yX8_of, .instanceMethod yX8_of, .selects RX8 yX8_of yX8_of, .initialized RX8, .code yX8_of cX8_of 3 (some .int), .fieldLink RX8 7 "LentSoundsModel" "all" "[I", .methodLink RX8 81 yX8_rankOf, .static yX8_rankOf, .code yX8_rankOf cX8_rankOf 3 (some .int)] ++ wsX80)
def wsX8_takesOut : List Cond := .code yX8_takesOut cX8_takesOut 3 none :: ([.fieldLink RX8 7 "LentSoundsModel" "all" "[I"] ++ wsX80)
def wsX8_putsIn : List Cond := .code yX8_putsIn cX8_putsIn 7 none :: ([.fieldLink RX8 7 "LentSoundsModel" "all" "[I", .methodLink RX8 85 yX8_rankAt, .instanceMethod yX8_rankAt, .selects RX8 yX8_rankAt yX8_rankAt, .initialized RX8, .code yX8_rankAt cX8_rankAt 2 (some .int), .methodLink RX8 77 yX8_of, .instanceMethod yX8_of, .selects RX8 yX8_of yX8_of, .code yX8_of cX8_of 3 (some .int), .methodLink RX8 81 yX8_rankOf, .static yX8_rankOf, .code yX8_rankOf cX8_rankOf 3 (some .int)] ++ wsX80)
def wsX8_cuesOf : List Cond := .code yX8_cuesOf cX8_cuesOf 4 (some .int) :: ([.fieldLink RX8 7 "LentSoundsModel" "all" "[I", .methodLink RX8 77 yX8_of, .instanceMethod yX8_of, .selects RX8 yX8_of yX8_of, .initialized RX8, .code yX8_of cX8_of 3 (some .int)] ++ wsX80)
def wsX8_apart : List Cond := .code yX8_apart cX8_apart 2 (some .int) :: ([])
def wsX8_handFor : List Cond := .code yX8_handFor cX8_handFor 6 (some .int) :: ([.fieldLink RX8 7 "LentSoundsModel" "all" "[I", .fieldLink RX8 37 "LentSoundsModel" "freeFrom" "[I", .methodLink RX8 89 yX8_apart, .static yX8_apart, .initialized RX8, .code yX8_apart cX8_apart 2 (some .int)] ++ wsX80)
def wsX8_isThere : List Cond := .code yX8_isThere cX8_isThere 4 (some .boolean) :: ([.fieldLink RX8 46 "LentSoundsModel" "usedIn" "[I", .fieldLink RX8 49 "LentSoundsModel" "usedTill" "[I", .fieldLink RX8 7 "LentSoundsModel" "all" "[I", .methodLink RX8 77 yX8_of, .instanceMethod yX8_of, .selects RX8 yX8_of yX8_of, .initialized RX8, .code yX8_of cX8_of 3 (some .int)] ++ wsX80)
def wsX8_comesTo_r1 : List Cond := [Cond.fieldLink RX8 7 "LentSoundsModel" "all" "[I", Cond.fieldLink RX8 25 "LentSoundsModel" "handOf" "[I", Cond.fieldLink RX8 31 "LentSoundsModel" "wayOf" "[I", Cond.fieldLink RX8 34 "LentSoundsModel" "isLent" "[I", Cond.fieldLink RX8 28 "LentSoundsModel" "reasonOf" "[I", Cond.fieldLink RX8 99 "LentSoundsModel" "misses" "I", Cond.fieldLink RX8 102 "LentSoundsModel" "earMisses" "I", Cond.fieldLink RX8 46 "LentSoundsModel" "usedIn" "[I", Cond.fieldLink RX8 40 "LentSoundsModel" "playedBy" "[I", Cond.fieldLink RX8 43 "LentSoundsModel" "walkedBy" "[I", Cond.fieldLink RX8 37 "LentSoundsModel" "freeFrom" "[I", Cond.fieldLink RX8 49 "LentSoundsModel" "usedTill" "[I", Cond.methodLink RX8 77 yX8_of, Cond.instanceMethod yX8_of, Cond.selects RX8 yX8_of yX8_of, Cond.initialized RX8, Cond.code yX8_of cX8_of 3 (some .int), Cond.methodLink RX8 92 yX8_handFor, Cond.instanceMethod yX8_handFor, Cond.selects RX8 yX8_handFor yX8_handFor, Cond.code yX8_handFor cX8_handFor 6 (some .int), Cond.methodLink RX8 89 yX8_apart, Cond.static yX8_apart, Cond.code yX8_apart cX8_apart 2 (some .int)]
def wsX8_comesTo_r2 : List Cond := [Cond.methodLink RX8 95 yX8_isThere, Cond.instanceMethod yX8_isThere, Cond.selects RX8 yX8_isThere yX8_isThere, Cond.code yX8_isThere cX8_isThere 4 (some .boolean)]
def wsX8_comesTo : List Cond := .code yX8_comesTo cX8_comesTo 5 none :: ((wsX8_comesTo_r1 ++ wsX8_comesTo_r2) ++ wsX80)
def wsX8_plays_r1 : List Cond := [Cond.fieldLink RX8 99 "LentSoundsModel" "misses" "I", Cond.fieldLink RX8 102 "LentSoundsModel" "earMisses" "I", Cond.fieldLink RX8 37 "LentSoundsModel" "freeFrom" "[I", Cond.fieldLink RX8 40 "LentSoundsModel" "playedBy" "[I", Cond.fieldLink RX8 43 "LentSoundsModel" "walkedBy" "[I", Cond.fieldLink RX8 46 "LentSoundsModel" "usedIn" "[I", Cond.fieldLink RX8 49 "LentSoundsModel" "usedTill" "[I", Cond.fieldLink RX8 7 "LentSoundsModel" "all" "[I", Cond.methodLink RX8 105 yX8_comesTo, Cond.instanceMethod yX8_comesTo, Cond.selects RX8 yX8_comesTo yX8_comesTo, Cond.initialized RX8, Cond.code yX8_comesTo cX8_comesTo 5 none, Cond.fieldLink RX8 25 "LentSoundsModel" "handOf" "[I", Cond.fieldLink RX8 31 "LentSoundsModel" "wayOf" "[I", Cond.fieldLink RX8 34 "LentSoundsModel" "isLent" "[I", Cond.fieldLink RX8 28 "LentSoundsModel" "reasonOf" "[I", Cond.methodLink RX8 77 yX8_of, Cond.instanceMethod yX8_of, Cond.selects RX8 yX8_of yX8_of, Cond.code yX8_of cX8_of 3 (some .int), Cond.methodLink RX8 92 yX8_handFor, Cond.instanceMethod yX8_handFor, Cond.selects RX8 yX8_handFor yX8_handFor]
def wsX8_plays_r2 : List Cond := [Cond.code yX8_handFor cX8_handFor 6 (some .int), Cond.methodLink RX8 89 yX8_apart, Cond.static yX8_apart, Cond.code yX8_apart cX8_apart 2 (some .int), Cond.methodLink RX8 95 yX8_isThere, Cond.instanceMethod yX8_isThere, Cond.selects RX8 yX8_isThere yX8_isThere, Cond.code yX8_isThere cX8_isThere 4 (some .boolean)]
def wsX8_plays : List Cond := .code yX8_plays cX8_plays 2 none :: ((wsX8_plays_r1 ++ wsX8_plays_r2) ++ wsX80)
def wsX8_tries_r1 : List Cond := [Cond.fieldLink RX8 7 "LentSoundsModel" "all" "[I", Cond.fieldLink RX8 16 "LentSoundsModel" "tried" "[I", Cond.fieldLink RX8 52 "LentSoundsModel" "then" "[I", Cond.methodLink RX8 61 yX8_copy, Cond.static yX8_copy, Cond.initialized RX8, Cond.code yX8_copy cX8_copy 3 none, Cond.methodLink RX8 109 yX8_plays, Cond.instanceMethod yX8_plays, Cond.selects RX8 yX8_plays yX8_plays, Cond.code yX8_plays cX8_plays 2 none, Cond.fieldLink RX8 99 "LentSoundsModel" "misses" "I", Cond.fieldLink RX8 102 "LentSoundsModel" "earMisses" "I", Cond.fieldLink RX8 37 "LentSoundsModel" "freeFrom" "[I", Cond.fieldLink RX8 40 "LentSoundsModel" "playedBy" "[I", Cond.fieldLink RX8 43 "LentSoundsModel" "walkedBy" "[I", Cond.fieldLink RX8 46 "LentSoundsModel" "usedIn" "[I", Cond.fieldLink RX8 49 "LentSoundsModel" "usedTill" "[I", Cond.methodLink RX8 105 yX8_comesTo, Cond.instanceMethod yX8_comesTo, Cond.selects RX8 yX8_comesTo yX8_comesTo, Cond.code yX8_comesTo cX8_comesTo 5 none, Cond.fieldLink RX8 25 "LentSoundsModel" "handOf" "[I", Cond.fieldLink RX8 31 "LentSoundsModel" "wayOf" "[I"]
def wsX8_tries_r2 : List Cond := [Cond.fieldLink RX8 34 "LentSoundsModel" "isLent" "[I", Cond.fieldLink RX8 28 "LentSoundsModel" "reasonOf" "[I", Cond.methodLink RX8 77 yX8_of, Cond.instanceMethod yX8_of, Cond.selects RX8 yX8_of yX8_of, Cond.code yX8_of cX8_of 3 (some .int), Cond.methodLink RX8 92 yX8_handFor, Cond.instanceMethod yX8_handFor, Cond.selects RX8 yX8_handFor yX8_handFor, Cond.code yX8_handFor cX8_handFor 6 (some .int), Cond.methodLink RX8 89 yX8_apart, Cond.static yX8_apart, Cond.code yX8_apart cX8_apart 2 (some .int), Cond.methodLink RX8 95 yX8_isThere, Cond.instanceMethod yX8_isThere, Cond.selects RX8 yX8_isThere yX8_isThere, Cond.code yX8_isThere cX8_isThere 4 (some .boolean)]
def wsX8_tries : List Cond := .code yX8_tries cX8_tries 2 none :: ((wsX8_tries_r1 ++ wsX8_tries_r2) ++ wsX80)
def wsX8_isValue : List Cond := .code yX8_isValue cX8_isValue 2 (some .boolean) :: ([.constantLong RX8 112 (4), .constantLong RX8 114 (30), .constantLong RX8 75 (9), .methodLink RX8 69 yX8_in, .static yX8_in, .initialized RX8, .code yX8_in cX8_in 6 (some .boolean)])
def wsX8_sets : List Cond := .code yX8_sets cX8_sets 4 (some .int) :: ([.fieldLink RX8 7 "LentSoundsModel" "all" "[I", .methodLink RX8 116 yX8_remember, .instanceMethod yX8_remember, .selects RX8 yX8_remember yX8_remember, .initialized RX8, .code yX8_remember cX8_remember 1 none, .fieldLink RX8 13 "LentSoundsModel" "kept" "[I", .methodLink RX8 61 yX8_copy, .static yX8_copy, .code yX8_copy cX8_copy 3 none, .methodLink RX8 119 yX8_acted, .instanceMethod yX8_acted, .selects RX8 yX8_acted yX8_acted, .code yX8_acted cX8_acted 3 (some .int), .fieldLink RX8 65 "LentSoundsModel" "historyLong" "I", .fieldLink RX8 19 "LentSoundsModel" "history" "[I"] ++ wsX80)
def wsX8_setSound_r1 : List Cond := [Cond.methodLink RX8 122 yX8_isSound, Cond.static yX8_isSound, Cond.initialized RX8, Cond.code yX8_isSound cX8_isSound 1 (some .boolean), Cond.constantLong RX8 75 (9), Cond.methodLink RX8 69 yX8_in, Cond.static yX8_in, Cond.code yX8_in cX8_in 6 (some .boolean), Cond.methodLink RX8 125 yX8_isValue, Cond.static yX8_isValue, Cond.code yX8_isValue cX8_isValue 2 (some .boolean), Cond.constantLong RX8 112 (4), Cond.constantLong RX8 114 (30), Cond.methodLink RX8 129 yX8_sets, Cond.instanceMethod yX8_sets, Cond.selects RX8 yX8_sets yX8_sets, Cond.code yX8_sets cX8_sets 4 (some .int), Cond.fieldLink RX8 7 "LentSoundsModel" "all" "[I", Cond.methodLink RX8 116 yX8_remember, Cond.instanceMethod yX8_remember, Cond.selects RX8 yX8_remember yX8_remember, Cond.code yX8_remember cX8_remember 1 none, Cond.fieldLink RX8 13 "LentSoundsModel" "kept" "[I", Cond.methodLink RX8 61 yX8_copy]
def wsX8_setSound_r2 : List Cond := [Cond.static yX8_copy, Cond.code yX8_copy cX8_copy 3 none, Cond.methodLink RX8 119 yX8_acted, Cond.instanceMethod yX8_acted, Cond.selects RX8 yX8_acted yX8_acted, Cond.code yX8_acted cX8_acted 3 (some .int), Cond.fieldLink RX8 65 "LentSoundsModel" "historyLong" "I", Cond.fieldLink RX8 19 "LentSoundsModel" "history" "[I"]
def wsX8_setSound : List Cond := .code yX8_setSound cX8_setSound 4 (some .int) :: ((wsX8_setSound_r1 ++ wsX8_setSound_r2) ++ wsX80)
def wsX8_becomeHands : List Cond := .code yX8_becomeHands cX8_becomeHands 3 none :: ([.fieldLink RX8 7 "LentSoundsModel" "all" "[I"] ++ wsX80)
def wsX8_setHands : List Cond := .code yX8_setHands cX8_setHands 3 (some .int) :: ([.constantLong RX8 112 (4), .fieldLink RX8 7 "LentSoundsModel" "all" "[I", .methodLink RX8 69 yX8_in, .static yX8_in, .initialized RX8, .code yX8_in cX8_in 6 (some .boolean), .methodLink RX8 116 yX8_remember, .instanceMethod yX8_remember, .selects RX8 yX8_remember yX8_remember, .code yX8_remember cX8_remember 1 none, .fieldLink RX8 13 "LentSoundsModel" "kept" "[I", .methodLink RX8 61 yX8_copy, .static yX8_copy, .code yX8_copy cX8_copy 3 none, .methodLink RX8 132 yX8_becomeHands, .instanceMethod yX8_becomeHands, .selects RX8 yX8_becomeHands yX8_becomeHands, .code yX8_becomeHands cX8_becomeHands 3 none, .methodLink RX8 119 yX8_acted, .instanceMethod yX8_acted, .selects RX8 yX8_acted yX8_acted, .code yX8_acted cX8_acted 3 (some .int), .fieldLink RX8 65 "LentSoundsModel" "historyLong" "I", .fieldLink RX8 19 "LentSoundsModel" "history" "[I"] ++ wsX80)
def wsX8_isHand : List Cond := .code yX8_isHand cX8_isHand 2 (some .boolean) :: ([.fieldLink RX8 7 "LentSoundsModel" "all" "[I", .methodLink RX8 69 yX8_in, .static yX8_in, .initialized RX8, .code yX8_in cX8_in 6 (some .boolean)] ++ wsX80)
def wsX8_send_r1 : List Cond := [Cond.constantLong RX8 112 (4), Cond.methodLink RX8 135 yX8_isHand, Cond.instanceMethod yX8_isHand, Cond.selects RX8 yX8_isHand yX8_isHand, Cond.initialized RX8, Cond.code yX8_isHand cX8_isHand 2 (some .boolean), Cond.fieldLink RX8 7 "LentSoundsModel" "all" "[I", Cond.methodLink RX8 69 yX8_in, Cond.static yX8_in, Cond.code yX8_in cX8_in 6 (some .boolean), Cond.methodLink RX8 129 yX8_sets, Cond.instanceMethod yX8_sets, Cond.selects RX8 yX8_sets yX8_sets, Cond.code yX8_sets cX8_sets 4 (some .int), Cond.methodLink RX8 116 yX8_remember, Cond.instanceMethod yX8_remember, Cond.selects RX8 yX8_remember yX8_remember, Cond.code yX8_remember cX8_remember 1 none, Cond.fieldLink RX8 13 "LentSoundsModel" "kept" "[I", Cond.methodLink RX8 61 yX8_copy, Cond.static yX8_copy, Cond.code yX8_copy cX8_copy 3 none, Cond.methodLink RX8 119 yX8_acted, Cond.instanceMethod yX8_acted]
def wsX8_send_r2 : List Cond := [Cond.selects RX8 yX8_acted yX8_acted, Cond.code yX8_acted cX8_acted 3 (some .int), Cond.fieldLink RX8 65 "LentSoundsModel" "historyLong" "I", Cond.fieldLink RX8 19 "LentSoundsModel" "history" "[I"]
def wsX8_send : List Cond := .code yX8_send cX8_send 3 (some .int) :: ((wsX8_send_r1 ++ wsX8_send_r2) ++ wsX80)
def wsX8_setCarrying : List Cond := .code yX8_setCarrying cX8_setCarrying 2 (some .int) :: ([.constantLong RX8 138 (20), .methodLink RX8 69 yX8_in, .static yX8_in, .initialized RX8, .code yX8_in cX8_in 6 (some .boolean), .methodLink RX8 129 yX8_sets, .instanceMethod yX8_sets, .selects RX8 yX8_sets yX8_sets, .code yX8_sets cX8_sets 4 (some .int), .fieldLink RX8 7 "LentSoundsModel" "all" "[I", .methodLink RX8 116 yX8_remember, .instanceMethod yX8_remember, .selects RX8 yX8_remember yX8_remember, .code yX8_remember cX8_remember 1 none, .fieldLink RX8 13 "LentSoundsModel" "kept" "[I", .methodLink RX8 61 yX8_copy, .static yX8_copy, .code yX8_copy cX8_copy 3 none, .methodLink RX8 119 yX8_acted, .instanceMethod yX8_acted, .selects RX8 yX8_acted yX8_acted, .code yX8_acted cX8_acted 3 (some .int), .fieldLink RX8 65 "LentSoundsModel" "historyLong" "I", .fieldLink RX8 19 "LentSoundsModel" "history" "[I"] ++ wsX80)
def wsX8_type : List Cond := .code yX8_type cX8_type 2 (some .int) :: ([.fieldLink RX8 140 "LentSoundsModel" "textLong" "I", .fieldLink RX8 55 "LentSoundsModel" "text" "[I"] ++ wsX80)
def wsX8_clearText : List Cond := .code yX8_clearText cX8_clearText 2 (some .int) :: ([.fieldLink RX8 140 "LentSoundsModel" "textLong" "I"] ++ wsX80)
def wsX8_isHere : List Cond := .code yX8_isHere cX8_isHere 3 (some .boolean) :: ([.fieldLink RX8 143 "LentSoundsModel" "spot" "I", .fieldLink RX8 140 "LentSoundsModel" "textLong" "I", .fieldLink RX8 55 "LentSoundsModel" "text" "[I", .methodLink RX8 69 yX8_in, .static yX8_in, .initialized RX8, .code yX8_in cX8_in 6 (some .boolean)] ++ wsX80)
def wsX8_takes : List Cond := .code yX8_takes cX8_takes 3 (some .boolean) :: ([.fieldLink RX8 143 "LentSoundsModel" "spot" "I", .methodLink RX8 146 yX8_isHere, .instanceMethod yX8_isHere, .selects RX8 yX8_isHere yX8_isHere, .initialized RX8, .code yX8_isHere cX8_isHere 3 (some .boolean), .fieldLink RX8 140 "LentSoundsModel" "textLong" "I", .fieldLink RX8 55 "LentSoundsModel" "text" "[I", .methodLink RX8 69 yX8_in, .static yX8_in, .code yX8_in cX8_in 6 (some .boolean)] ++ wsX80)
def wsX8_readsNumber : List Cond := .code yX8_readsNumber cX8_readsNumber 3 (some .boolean) :: ([.fieldLink RX8 55 "LentSoundsModel" "text" "[I", .fieldLink RX8 143 "LentSoundsModel" "spot" "I", .fieldLink RX8 149 "LentSoundsModel" "number" "I", .methodLink RX8 146 yX8_isHere, .instanceMethod yX8_isHere, .selects RX8 yX8_isHere yX8_isHere, .initialized RX8, .code yX8_isHere cX8_isHere 3 (some .boolean), .fieldLink RX8 140 "LentSoundsModel" "textLong" "I", .methodLink RX8 69 yX8_in, .static yX8_in, .code yX8_in cX8_in 6 (some .boolean)] ++ wsX80)
def wsX8_readsCue : List Cond := .code yX8_readsCue cX8_readsCue 2 (some .boolean) :: ([.fieldLink RX8 152 "LentSoundsModel" "readMany" "I", .fieldLink RX8 58 "LentSoundsModel" "read" "[I", .fieldLink RX8 149 "LentSoundsModel" "number" "I", .methodLink RX8 155 yX8_readsNumber, .instanceMethod yX8_readsNumber, .selects RX8 yX8_readsNumber yX8_readsNumber, .initialized RX8, .code yX8_readsNumber cX8_readsNumber 3 (some .boolean), .fieldLink RX8 55 "LentSoundsModel" "text" "[I", .fieldLink RX8 143 "LentSoundsModel" "spot" "I", .methodLink RX8 146 yX8_isHere, .instanceMethod yX8_isHere, .selects RX8 yX8_isHere yX8_isHere, .code yX8_isHere cX8_isHere 3 (some .boolean), .fieldLink RX8 140 "LentSoundsModel" "textLong" "I", .methodLink RX8 69 yX8_in, .static yX8_in, .code yX8_in cX8_in 6 (some .boolean), .methodLink RX8 158 yX8_takes, .instanceMethod yX8_takes, .selects RX8 yX8_takes yX8_takes, .code yX8_takes cX8_takes 3 (some .boolean)] ++ wsX80)
def wsX8_fault_r1 : List Cond := [Cond.fieldLink RX8 143 "LentSoundsModel" "spot" "I", Cond.fieldLink RX8 152 "LentSoundsModel" "readMany" "I", Cond.fieldLink RX8 140 "LentSoundsModel" "textLong" "I", Cond.methodLink RX8 161 yX8_readsCue, Cond.instanceMethod yX8_readsCue, Cond.selects RX8 yX8_readsCue yX8_readsCue, Cond.initialized RX8, Cond.code yX8_readsCue cX8_readsCue 2 (some .boolean), Cond.fieldLink RX8 58 "LentSoundsModel" "read" "[I", Cond.fieldLink RX8 149 "LentSoundsModel" "number" "I", Cond.methodLink RX8 155 yX8_readsNumber, Cond.instanceMethod yX8_readsNumber, Cond.selects RX8 yX8_readsNumber yX8_readsNumber, Cond.code yX8_readsNumber cX8_readsNumber 3 (some .boolean), Cond.fieldLink RX8 55 "LentSoundsModel" "text" "[I", Cond.methodLink RX8 146 yX8_isHere, Cond.instanceMethod yX8_isHere, Cond.selects RX8 yX8_isHere yX8_isHere, Cond.code yX8_isHere cX8_isHere 3 (some .boolean), Cond.methodLink RX8 69 yX8_in, Cond.static yX8_in, Cond.code yX8_in cX8_in 6 (some .boolean), Cond.methodLink RX8 158 yX8_takes, Cond.instanceMethod yX8_takes]
def wsX8_fault_r2 : List Cond := [Cond.selects RX8 yX8_takes yX8_takes, Cond.code yX8_takes cX8_takes 3 (some .boolean)]
def wsX8_fault : List Cond := .code yX8_fault cX8_fault 2 (some .int) :: ((wsX8_fault_r1 ++ wsX8_fault_r2) ++ wsX80)
def wsX8_rankRead : List Cond := .code yX8_rankRead cX8_rankRead 2 (some .int) :: ([.fieldLink RX8 58 "LentSoundsModel" "read" "[I", .methodLink RX8 81 yX8_rankOf, .static yX8_rankOf, .initialized RX8, .code yX8_rankOf cX8_rankOf 3 (some .int)] ++ wsX80)
def wsX8_isTwice : List Cond := .code yX8_isTwice cX8_isTwice 4 (some .boolean) :: ([.fieldLink RX8 7 "LentSoundsModel" "all" "[I", .methodLink RX8 85 yX8_rankAt, .instanceMethod yX8_rankAt, .selects RX8 yX8_rankAt yX8_rankAt, .initialized RX8, .code yX8_rankAt cX8_rankAt 2 (some .int), .methodLink RX8 77 yX8_of, .instanceMethod yX8_of, .selects RX8 yX8_of yX8_of, .code yX8_of cX8_of 3 (some .int), .methodLink RX8 81 yX8_rankOf, .static yX8_rankOf, .code yX8_rankOf cX8_rankOf 3 (some .int), .methodLink RX8 165 yX8_rankRead, .instanceMethod yX8_rankRead, .selects RX8 yX8_rankRead yX8_rankRead, .code yX8_rankRead cX8_rankRead 2 (some .int), .fieldLink RX8 58 "LentSoundsModel" "read" "[I"] ++ wsX80)
def wsX8_readCues_r1 : List Cond := [Cond.fieldLink RX8 152 "LentSoundsModel" "readMany" "I", Cond.fieldLink RX8 7 "LentSoundsModel" "all" "[I", Cond.fieldLink RX8 58 "LentSoundsModel" "read" "[I", Cond.methodLink RX8 168 yX8_fault, Cond.instanceMethod yX8_fault, Cond.selects RX8 yX8_fault yX8_fault, Cond.initialized RX8, Cond.code yX8_fault cX8_fault 2 (some .int), Cond.fieldLink RX8 143 "LentSoundsModel" "spot" "I", Cond.fieldLink RX8 140 "LentSoundsModel" "textLong" "I", Cond.methodLink RX8 161 yX8_readsCue, Cond.instanceMethod yX8_readsCue, Cond.selects RX8 yX8_readsCue yX8_readsCue, Cond.code yX8_readsCue cX8_readsCue 2 (some .boolean), Cond.fieldLink RX8 149 "LentSoundsModel" "number" "I", Cond.methodLink RX8 155 yX8_readsNumber, Cond.instanceMethod yX8_readsNumber, Cond.selects RX8 yX8_readsNumber yX8_readsNumber, Cond.code yX8_readsNumber cX8_readsNumber 3 (some .boolean), Cond.fieldLink RX8 55 "LentSoundsModel" "text" "[I", Cond.methodLink RX8 146 yX8_isHere, Cond.instanceMethod yX8_isHere, Cond.selects RX8 yX8_isHere yX8_isHere, Cond.code yX8_isHere cX8_isHere 3 (some .boolean)]
def wsX8_readCues_r2 : List Cond := [Cond.methodLink RX8 69 yX8_in, Cond.static yX8_in, Cond.code yX8_in cX8_in 6 (some .boolean), Cond.methodLink RX8 158 yX8_takes, Cond.instanceMethod yX8_takes, Cond.selects RX8 yX8_takes yX8_takes, Cond.code yX8_takes cX8_takes 3 (some .boolean), Cond.methodLink RX8 172 yX8_isTwice, Cond.instanceMethod yX8_isTwice, Cond.selects RX8 yX8_isTwice yX8_isTwice, Cond.code yX8_isTwice cX8_isTwice 4 (some .boolean), Cond.methodLink RX8 85 yX8_rankAt, Cond.instanceMethod yX8_rankAt, Cond.selects RX8 yX8_rankAt yX8_rankAt, Cond.code yX8_rankAt cX8_rankAt 2 (some .int), Cond.methodLink RX8 77 yX8_of, Cond.instanceMethod yX8_of, Cond.selects RX8 yX8_of yX8_of, Cond.code yX8_of cX8_of 3 (some .int), Cond.methodLink RX8 81 yX8_rankOf, Cond.static yX8_rankOf, Cond.code yX8_rankOf cX8_rankOf 3 (some .int), Cond.methodLink RX8 165 yX8_rankRead, Cond.instanceMethod yX8_rankRead]
def wsX8_readCues_r3 : List Cond := [Cond.selects RX8 yX8_rankRead yX8_rankRead, Cond.code yX8_rankRead cX8_rankRead 2 (some .int), Cond.methodLink RX8 116 yX8_remember, Cond.instanceMethod yX8_remember, Cond.selects RX8 yX8_remember yX8_remember, Cond.code yX8_remember cX8_remember 1 none, Cond.fieldLink RX8 13 "LentSoundsModel" "kept" "[I", Cond.methodLink RX8 61 yX8_copy, Cond.static yX8_copy, Cond.code yX8_copy cX8_copy 3 none, Cond.methodLink RX8 175 yX8_putsIn, Cond.instanceMethod yX8_putsIn, Cond.selects RX8 yX8_putsIn yX8_putsIn, Cond.code yX8_putsIn cX8_putsIn 7 none, Cond.methodLink RX8 119 yX8_acted, Cond.instanceMethod yX8_acted, Cond.selects RX8 yX8_acted yX8_acted, Cond.code yX8_acted cX8_acted 3 (some .int), Cond.fieldLink RX8 65 "LentSoundsModel" "historyLong" "I", Cond.fieldLink RX8 19 "LentSoundsModel" "history" "[I"]
def wsX8_readCues : List Cond := .code yX8_readCues cX8_readCues 3 (some .int) :: ((wsX8_readCues_r1 ++ (wsX8_readCues_r2 ++ wsX8_readCues_r3)) ++ wsX80)
def wsX8_removeCue_r1 : List Cond := [Cond.fieldLink RX8 7 "LentSoundsModel" "all" "[I", Cond.methodLink RX8 179 yX8_isCue, Cond.instanceMethod yX8_isCue, Cond.selects RX8 yX8_isCue yX8_isCue, Cond.initialized RX8, Cond.code yX8_isCue cX8_isCue 2 (some .boolean), Cond.methodLink RX8 69 yX8_in, Cond.static yX8_in, Cond.code yX8_in cX8_in 6 (some .boolean), Cond.methodLink RX8 116 yX8_remember, Cond.instanceMethod yX8_remember, Cond.selects RX8 yX8_remember yX8_remember, Cond.code yX8_remember cX8_remember 1 none, Cond.fieldLink RX8 13 "LentSoundsModel" "kept" "[I", Cond.methodLink RX8 61 yX8_copy, Cond.static yX8_copy, Cond.code yX8_copy cX8_copy 3 none, Cond.methodLink RX8 182 yX8_takesOut, Cond.instanceMethod yX8_takesOut, Cond.selects RX8 yX8_takesOut yX8_takesOut, Cond.code yX8_takesOut cX8_takesOut 3 none, Cond.methodLink RX8 119 yX8_acted, Cond.instanceMethod yX8_acted, Cond.selects RX8 yX8_acted yX8_acted]
def wsX8_removeCue_r2 : List Cond := [Cond.code yX8_acted cX8_acted 3 (some .int), Cond.fieldLink RX8 65 "LentSoundsModel" "historyLong" "I", Cond.fieldLink RX8 19 "LentSoundsModel" "history" "[I"]
def wsX8_removeCue : List Cond := .code yX8_removeCue cX8_removeCue 2 (some .int) :: ((wsX8_removeCue_r1 ++ wsX8_removeCue_r2) ++ wsX80)
def wsX8_takesOutScene : List Cond := .code yX8_takesOutScene cX8_takesOutScene 3 none :: ([.fieldLink RX8 7 "LentSoundsModel" "all" "[I", .methodLink RX8 77 yX8_of, .instanceMethod yX8_of, .selects RX8 yX8_of yX8_of, .initialized RX8, .code yX8_of cX8_of 3 (some .int), .methodLink RX8 182 yX8_takesOut, .instanceMethod yX8_takesOut, .selects RX8 yX8_takesOut yX8_takesOut, .code yX8_takesOut cX8_takesOut 3 none] ++ wsX80)
def wsX8_canShift : List Cond := .code yX8_canShift cX8_canShift 5 (some .boolean) :: ([.fieldLink RX8 7 "LentSoundsModel" "all" "[I", .constantLong RX8 185 (999), .methodLink RX8 77 yX8_of, .instanceMethod yX8_of, .selects RX8 yX8_of yX8_of, .initialized RX8, .code yX8_of cX8_of 3 (some .int), .methodLink RX8 69 yX8_in, .static yX8_in, .code yX8_in cX8_in 6 (some .boolean)] ++ wsX80)
def wsX8_shift_r1 : List Cond := [Cond.constantLong RX8 190 (-99), Cond.constantLong RX8 192 (99), Cond.fieldLink RX8 13 "LentSoundsModel" "kept" "[I", Cond.methodLink RX8 187 yX8_isScene, Cond.static yX8_isScene, Cond.initialized RX8, Cond.code yX8_isScene cX8_isScene 1 (some .boolean), Cond.constantLong RX8 73 (5), Cond.methodLink RX8 69 yX8_in, Cond.static yX8_in, Cond.code yX8_in cX8_in 6 (some .boolean), Cond.methodLink RX8 194 yX8_canShift, Cond.instanceMethod yX8_canShift, Cond.selects RX8 yX8_canShift yX8_canShift, Cond.code yX8_canShift cX8_canShift 5 (some .boolean), Cond.fieldLink RX8 7 "LentSoundsModel" "all" "[I", Cond.constantLong RX8 185 (999), Cond.methodLink RX8 77 yX8_of, Cond.instanceMethod yX8_of, Cond.selects RX8 yX8_of yX8_of, Cond.code yX8_of cX8_of 3 (some .int), Cond.methodLink RX8 197 yX8_cuesOf, Cond.instanceMethod yX8_cuesOf, Cond.selects RX8 yX8_cuesOf yX8_cuesOf]
def wsX8_shift_r2 : List Cond := [Cond.code yX8_cuesOf cX8_cuesOf 4 (some .int), Cond.methodLink RX8 116 yX8_remember, Cond.instanceMethod yX8_remember, Cond.selects RX8 yX8_remember yX8_remember, Cond.code yX8_remember cX8_remember 1 none, Cond.methodLink RX8 61 yX8_copy, Cond.static yX8_copy, Cond.code yX8_copy cX8_copy 3 none, Cond.methodLink RX8 200 yX8_takesOutScene, Cond.instanceMethod yX8_takesOutScene, Cond.selects RX8 yX8_takesOutScene yX8_takesOutScene, Cond.code yX8_takesOutScene cX8_takesOutScene 3 none, Cond.methodLink RX8 182 yX8_takesOut, Cond.instanceMethod yX8_takesOut, Cond.selects RX8 yX8_takesOut yX8_takesOut, Cond.code yX8_takesOut cX8_takesOut 3 none, Cond.methodLink RX8 175 yX8_putsIn, Cond.instanceMethod yX8_putsIn, Cond.selects RX8 yX8_putsIn yX8_putsIn, Cond.code yX8_putsIn cX8_putsIn 7 none, Cond.methodLink RX8 85 yX8_rankAt, Cond.instanceMethod yX8_rankAt, Cond.selects RX8 yX8_rankAt yX8_rankAt, Cond.code yX8_rankAt cX8_rankAt 2 (some .int)]
def wsX8_shift_r3 : List Cond := [Cond.methodLink RX8 81 yX8_rankOf, Cond.static yX8_rankOf, Cond.code yX8_rankOf cX8_rankOf 3 (some .int), Cond.methodLink RX8 119 yX8_acted, Cond.instanceMethod yX8_acted, Cond.selects RX8 yX8_acted yX8_acted, Cond.code yX8_acted cX8_acted 3 (some .int), Cond.fieldLink RX8 65 "LentSoundsModel" "historyLong" "I", Cond.fieldLink RX8 19 "LentSoundsModel" "history" "[I"]
def wsX8_shift : List Cond := .code yX8_shift cX8_shift 5 (some .int) :: ((wsX8_shift_r1 ++ (wsX8_shift_r2 ++ wsX8_shift_r3)) ++ wsX80)
def wsX8_cutScene_r1 : List Cond := [Cond.methodLink RX8 187 yX8_isScene, Cond.static yX8_isScene, Cond.initialized RX8, Cond.code yX8_isScene cX8_isScene 1 (some .boolean), Cond.constantLong RX8 73 (5), Cond.methodLink RX8 69 yX8_in, Cond.static yX8_in, Cond.code yX8_in cX8_in 6 (some .boolean), Cond.methodLink RX8 197 yX8_cuesOf, Cond.instanceMethod yX8_cuesOf, Cond.selects RX8 yX8_cuesOf yX8_cuesOf, Cond.code yX8_cuesOf cX8_cuesOf 4 (some .int), Cond.fieldLink RX8 7 "LentSoundsModel" "all" "[I", Cond.methodLink RX8 77 yX8_of, Cond.instanceMethod yX8_of, Cond.selects RX8 yX8_of yX8_of, Cond.code yX8_of cX8_of 3 (some .int), Cond.methodLink RX8 116 yX8_remember, Cond.instanceMethod yX8_remember, Cond.selects RX8 yX8_remember yX8_remember, Cond.code yX8_remember cX8_remember 1 none, Cond.fieldLink RX8 13 "LentSoundsModel" "kept" "[I", Cond.methodLink RX8 61 yX8_copy, Cond.static yX8_copy]
def wsX8_cutScene_r2 : List Cond := [Cond.code yX8_copy cX8_copy 3 none, Cond.methodLink RX8 200 yX8_takesOutScene, Cond.instanceMethod yX8_takesOutScene, Cond.selects RX8 yX8_takesOutScene yX8_takesOutScene, Cond.code yX8_takesOutScene cX8_takesOutScene 3 none, Cond.methodLink RX8 182 yX8_takesOut, Cond.instanceMethod yX8_takesOut, Cond.selects RX8 yX8_takesOut yX8_takesOut, Cond.code yX8_takesOut cX8_takesOut 3 none, Cond.methodLink RX8 119 yX8_acted, Cond.instanceMethod yX8_acted, Cond.selects RX8 yX8_acted yX8_acted, Cond.code yX8_acted cX8_acted 3 (some .int), Cond.fieldLink RX8 65 "LentSoundsModel" "historyLong" "I", Cond.fieldLink RX8 19 "LentSoundsModel" "history" "[I"]
def wsX8_cutScene : List Cond := .code yX8_cutScene cX8_cutScene 3 (some .int) :: ((wsX8_cutScene_r1 ++ wsX8_cutScene_r2) ++ wsX80)
def wsX8_take_r1 : List Cond := [Cond.fieldLink RX8 7 "LentSoundsModel" "all" "[I", Cond.fieldLink RX8 99 "LentSoundsModel" "misses" "I", Cond.fieldLink RX8 102 "LentSoundsModel" "earMisses" "I", Cond.methodLink RX8 116 yX8_remember, Cond.instanceMethod yX8_remember, Cond.selects RX8 yX8_remember yX8_remember, Cond.initialized RX8, Cond.code yX8_remember cX8_remember 1 none, Cond.fieldLink RX8 13 "LentSoundsModel" "kept" "[I", Cond.methodLink RX8 61 yX8_copy, Cond.static yX8_copy, Cond.code yX8_copy cX8_copy 3 none, Cond.methodLink RX8 109 yX8_plays, Cond.instanceMethod yX8_plays, Cond.selects RX8 yX8_plays yX8_plays, Cond.code yX8_plays cX8_plays 2 none, Cond.fieldLink RX8 37 "LentSoundsModel" "freeFrom" "[I", Cond.fieldLink RX8 40 "LentSoundsModel" "playedBy" "[I", Cond.fieldLink RX8 43 "LentSoundsModel" "walkedBy" "[I", Cond.fieldLink RX8 46 "LentSoundsModel" "usedIn" "[I", Cond.fieldLink RX8 49 "LentSoundsModel" "usedTill" "[I", Cond.methodLink RX8 105 yX8_comesTo, Cond.instanceMethod yX8_comesTo, Cond.selects RX8 yX8_comesTo yX8_comesTo]
def wsX8_take_r2 : List Cond := [Cond.code yX8_comesTo cX8_comesTo 5 none, Cond.fieldLink RX8 25 "LentSoundsModel" "handOf" "[I", Cond.fieldLink RX8 31 "LentSoundsModel" "wayOf" "[I", Cond.fieldLink RX8 34 "LentSoundsModel" "isLent" "[I", Cond.fieldLink RX8 28 "LentSoundsModel" "reasonOf" "[I", Cond.methodLink RX8 77 yX8_of, Cond.instanceMethod yX8_of, Cond.selects RX8 yX8_of yX8_of, Cond.code yX8_of cX8_of 3 (some .int), Cond.methodLink RX8 92 yX8_handFor, Cond.instanceMethod yX8_handFor, Cond.selects RX8 yX8_handFor yX8_handFor, Cond.code yX8_handFor cX8_handFor 6 (some .int), Cond.methodLink RX8 89 yX8_apart, Cond.static yX8_apart, Cond.code yX8_apart cX8_apart 2 (some .int), Cond.methodLink RX8 95 yX8_isThere, Cond.instanceMethod yX8_isThere, Cond.selects RX8 yX8_isThere yX8_isThere, Cond.code yX8_isThere cX8_isThere 4 (some .boolean), Cond.methodLink RX8 119 yX8_acted, Cond.instanceMethod yX8_acted, Cond.selects RX8 yX8_acted yX8_acted, Cond.code yX8_acted cX8_acted 3 (some .int)]
def wsX8_take_r3 : List Cond := [Cond.fieldLink RX8 65 "LentSoundsModel" "historyLong" "I", Cond.fieldLink RX8 19 "LentSoundsModel" "history" "[I"]
def wsX8_take : List Cond := .code yX8_take cX8_take 1 (some .int) :: ((wsX8_take_r1 ++ (wsX8_take_r2 ++ wsX8_take_r3)) ++ wsX80)
def wsX8_undo : List Cond := .code yX8_undo cX8_undo 2 (some .int) :: ([.fieldLink RX8 65 "LentSoundsModel" "historyLong" "I", .fieldLink RX8 7 "LentSoundsModel" "all" "[I", .fieldLink RX8 19 "LentSoundsModel" "history" "[I"] ++ wsX80)
def wsX8_keep : List Cond := .code yX8_keep cX8_keep 1 (some .int) :: ([.fieldLink RX8 7 "LentSoundsModel" "all" "[I", .fieldLink RX8 22 "LentSoundsModel" "snapshot" "[I", .fieldLink RX8 203 "LentSoundsModel" "isTaken" "I", .methodLink RX8 61 yX8_copy, .static yX8_copy, .initialized RX8, .code yX8_copy cX8_copy 3 none] ++ wsX80)
def wsX8_restore : List Cond := .code yX8_restore cX8_restore 1 (some .int) :: ([.fieldLink RX8 203 "LentSoundsModel" "isTaken" "I", .fieldLink RX8 22 "LentSoundsModel" "snapshot" "[I", .fieldLink RX8 7 "LentSoundsModel" "all" "[I", .methodLink RX8 116 yX8_remember, .instanceMethod yX8_remember, .selects RX8 yX8_remember yX8_remember, .initialized RX8, .code yX8_remember cX8_remember 1 none, .fieldLink RX8 13 "LentSoundsModel" "kept" "[I", .methodLink RX8 61 yX8_copy, .static yX8_copy, .code yX8_copy cX8_copy 3 none, .methodLink RX8 119 yX8_acted, .instanceMethod yX8_acted, .selects RX8 yX8_acted yX8_acted, .code yX8_acted cX8_acted 3 (some .int), .fieldLink RX8 65 "LentSoundsModel" "historyLong" "I", .fieldLink RX8 19 "LentSoundsModel" "history" "[I"] ++ wsX80)
def wsX8_cuesOfSound_r1 : List Cond := [Cond.fieldLink RX8 7 "LentSoundsModel" "all" "[I", Cond.fieldLink RX8 28 "LentSoundsModel" "reasonOf" "[I", Cond.methodLink RX8 206 yX8_tries, Cond.instanceMethod yX8_tries, Cond.selects RX8 yX8_tries yX8_tries, Cond.initialized RX8, Cond.code yX8_tries cX8_tries 2 none, Cond.fieldLink RX8 16 "LentSoundsModel" "tried" "[I", Cond.fieldLink RX8 52 "LentSoundsModel" "then" "[I", Cond.methodLink RX8 61 yX8_copy, Cond.static yX8_copy, Cond.code yX8_copy cX8_copy 3 none, Cond.methodLink RX8 109 yX8_plays, Cond.instanceMethod yX8_plays, Cond.selects RX8 yX8_plays yX8_plays, Cond.code yX8_plays cX8_plays 2 none, Cond.fieldLink RX8 99 "LentSoundsModel" "misses" "I", Cond.fieldLink RX8 102 "LentSoundsModel" "earMisses" "I", Cond.fieldLink RX8 37 "LentSoundsModel" "freeFrom" "[I", Cond.fieldLink RX8 40 "LentSoundsModel" "playedBy" "[I", Cond.fieldLink RX8 43 "LentSoundsModel" "walkedBy" "[I", Cond.fieldLink RX8 46 "LentSoundsModel" "usedIn" "[I", Cond.fieldLink RX8 49 "LentSoundsModel" "usedTill" "[I", Cond.methodLink RX8 105 yX8_comesTo]
def wsX8_cuesOfSound_r2 : List Cond := [Cond.instanceMethod yX8_comesTo, Cond.selects RX8 yX8_comesTo yX8_comesTo, Cond.code yX8_comesTo cX8_comesTo 5 none, Cond.fieldLink RX8 25 "LentSoundsModel" "handOf" "[I", Cond.fieldLink RX8 31 "LentSoundsModel" "wayOf" "[I", Cond.fieldLink RX8 34 "LentSoundsModel" "isLent" "[I", Cond.methodLink RX8 77 yX8_of, Cond.instanceMethod yX8_of, Cond.selects RX8 yX8_of yX8_of, Cond.code yX8_of cX8_of 3 (some .int), Cond.methodLink RX8 92 yX8_handFor, Cond.instanceMethod yX8_handFor, Cond.selects RX8 yX8_handFor yX8_handFor, Cond.code yX8_handFor cX8_handFor 6 (some .int), Cond.methodLink RX8 89 yX8_apart, Cond.static yX8_apart, Cond.code yX8_apart cX8_apart 2 (some .int), Cond.methodLink RX8 95 yX8_isThere, Cond.instanceMethod yX8_isThere, Cond.selects RX8 yX8_isThere yX8_isThere, Cond.code yX8_isThere cX8_isThere 4 (some .boolean)]
def wsX8_cuesOfSound : List Cond := .code yX8_cuesOfSound cX8_cuesOfSound 5 (some .int) :: ((wsX8_cuesOfSound_r1 ++ wsX8_cuesOfSound_r2) ++ wsX80)
def wsX8_lacks_r1 : List Cond := [Cond.fieldLink RX8 7 "LentSoundsModel" "all" "[I", Cond.methodLink RX8 209 yX8_cuesOfSound, Cond.instanceMethod yX8_cuesOfSound, Cond.selects RX8 yX8_cuesOfSound yX8_cuesOfSound, Cond.initialized RX8, Cond.code yX8_cuesOfSound cX8_cuesOfSound 5 (some .int), Cond.fieldLink RX8 28 "LentSoundsModel" "reasonOf" "[I", Cond.methodLink RX8 206 yX8_tries, Cond.instanceMethod yX8_tries, Cond.selects RX8 yX8_tries yX8_tries, Cond.code yX8_tries cX8_tries 2 none, Cond.fieldLink RX8 16 "LentSoundsModel" "tried" "[I", Cond.fieldLink RX8 52 "LentSoundsModel" "then" "[I", Cond.methodLink RX8 61 yX8_copy, Cond.static yX8_copy, Cond.code yX8_copy cX8_copy 3 none, Cond.methodLink RX8 109 yX8_plays, Cond.instanceMethod yX8_plays, Cond.selects RX8 yX8_plays yX8_plays, Cond.code yX8_plays cX8_plays 2 none, Cond.fieldLink RX8 99 "LentSoundsModel" "misses" "I", Cond.fieldLink RX8 102 "LentSoundsModel" "earMisses" "I", Cond.fieldLink RX8 37 "LentSoundsModel" "freeFrom" "[I", Cond.fieldLink RX8 40 "LentSoundsModel" "playedBy" "[I"]
def wsX8_lacks_r2 : List Cond := [Cond.fieldLink RX8 43 "LentSoundsModel" "walkedBy" "[I", Cond.fieldLink RX8 46 "LentSoundsModel" "usedIn" "[I", Cond.fieldLink RX8 49 "LentSoundsModel" "usedTill" "[I", Cond.methodLink RX8 105 yX8_comesTo, Cond.instanceMethod yX8_comesTo, Cond.selects RX8 yX8_comesTo yX8_comesTo, Cond.code yX8_comesTo cX8_comesTo 5 none, Cond.fieldLink RX8 25 "LentSoundsModel" "handOf" "[I", Cond.fieldLink RX8 31 "LentSoundsModel" "wayOf" "[I", Cond.fieldLink RX8 34 "LentSoundsModel" "isLent" "[I", Cond.methodLink RX8 77 yX8_of, Cond.instanceMethod yX8_of, Cond.selects RX8 yX8_of yX8_of, Cond.code yX8_of cX8_of 3 (some .int), Cond.methodLink RX8 92 yX8_handFor, Cond.instanceMethod yX8_handFor, Cond.selects RX8 yX8_handFor yX8_handFor, Cond.code yX8_handFor cX8_handFor 6 (some .int), Cond.methodLink RX8 89 yX8_apart, Cond.static yX8_apart, Cond.code yX8_apart cX8_apart 2 (some .int), Cond.methodLink RX8 95 yX8_isThere, Cond.instanceMethod yX8_isThere, Cond.selects RX8 yX8_isThere yX8_isThere]
def wsX8_lacks_r3 : List Cond := [Cond.code yX8_isThere cX8_isThere 4 (some .boolean)]
def wsX8_lacks : List Cond := .code yX8_lacks cX8_lacks 3 (some .int) :: ((wsX8_lacks_r1 ++ (wsX8_lacks_r2 ++ wsX8_lacks_r3)) ++ wsX80)
def wsX8_sound_r1 : List Cond := [Cond.fieldLink RX8 7 "LentSoundsModel" "all" "[I", Cond.methodLink RX8 122 yX8_isSound, Cond.static yX8_isSound, Cond.initialized RX8, Cond.code yX8_isSound cX8_isSound 1 (some .boolean), Cond.constantLong RX8 75 (9), Cond.methodLink RX8 69 yX8_in, Cond.static yX8_in, Cond.code yX8_in cX8_in 6 (some .boolean), Cond.methodLink RX8 209 yX8_cuesOfSound, Cond.instanceMethod yX8_cuesOfSound, Cond.selects RX8 yX8_cuesOfSound yX8_cuesOfSound, Cond.code yX8_cuesOfSound cX8_cuesOfSound 5 (some .int), Cond.fieldLink RX8 28 "LentSoundsModel" "reasonOf" "[I", Cond.methodLink RX8 206 yX8_tries, Cond.instanceMethod yX8_tries, Cond.selects RX8 yX8_tries yX8_tries, Cond.code yX8_tries cX8_tries 2 none, Cond.fieldLink RX8 16 "LentSoundsModel" "tried" "[I", Cond.fieldLink RX8 52 "LentSoundsModel" "then" "[I", Cond.methodLink RX8 61 yX8_copy, Cond.static yX8_copy, Cond.code yX8_copy cX8_copy 3 none, Cond.methodLink RX8 109 yX8_plays]
def wsX8_sound_r2 : List Cond := [Cond.instanceMethod yX8_plays, Cond.selects RX8 yX8_plays yX8_plays, Cond.code yX8_plays cX8_plays 2 none, Cond.fieldLink RX8 99 "LentSoundsModel" "misses" "I", Cond.fieldLink RX8 102 "LentSoundsModel" "earMisses" "I", Cond.fieldLink RX8 37 "LentSoundsModel" "freeFrom" "[I", Cond.fieldLink RX8 40 "LentSoundsModel" "playedBy" "[I", Cond.fieldLink RX8 43 "LentSoundsModel" "walkedBy" "[I", Cond.fieldLink RX8 46 "LentSoundsModel" "usedIn" "[I", Cond.fieldLink RX8 49 "LentSoundsModel" "usedTill" "[I", Cond.methodLink RX8 105 yX8_comesTo, Cond.instanceMethod yX8_comesTo, Cond.selects RX8 yX8_comesTo yX8_comesTo, Cond.code yX8_comesTo cX8_comesTo 5 none, Cond.fieldLink RX8 25 "LentSoundsModel" "handOf" "[I", Cond.fieldLink RX8 31 "LentSoundsModel" "wayOf" "[I", Cond.fieldLink RX8 34 "LentSoundsModel" "isLent" "[I", Cond.methodLink RX8 77 yX8_of, Cond.instanceMethod yX8_of, Cond.selects RX8 yX8_of yX8_of, Cond.code yX8_of cX8_of 3 (some .int), Cond.methodLink RX8 92 yX8_handFor, Cond.instanceMethod yX8_handFor, Cond.selects RX8 yX8_handFor yX8_handFor]
def wsX8_sound_r3 : List Cond := [Cond.code yX8_handFor cX8_handFor 6 (some .int), Cond.methodLink RX8 89 yX8_apart, Cond.static yX8_apart, Cond.code yX8_apart cX8_apart 2 (some .int), Cond.methodLink RX8 95 yX8_isThere, Cond.instanceMethod yX8_isThere, Cond.selects RX8 yX8_isThere yX8_isThere, Cond.code yX8_isThere cX8_isThere 4 (some .boolean), Cond.methodLink RX8 213 yX8_lacks, Cond.instanceMethod yX8_lacks, Cond.selects RX8 yX8_lacks yX8_lacks, Cond.code yX8_lacks cX8_lacks 3 (some .int)]
def wsX8_sound : List Cond := .code yX8_sound cX8_sound 3 (some .int) :: ((wsX8_sound_r1 ++ (wsX8_sound_r2 ++ wsX8_sound_r3)) ++ wsX80)
def wsX8_cue_r1 : List Cond := [Cond.fieldLink RX8 25 "LentSoundsModel" "handOf" "[I", Cond.fieldLink RX8 28 "LentSoundsModel" "reasonOf" "[I", Cond.fieldLink RX8 31 "LentSoundsModel" "wayOf" "[I", Cond.methodLink RX8 179 yX8_isCue, Cond.instanceMethod yX8_isCue, Cond.selects RX8 yX8_isCue yX8_isCue, Cond.initialized RX8, Cond.code yX8_isCue cX8_isCue 2 (some .boolean), Cond.fieldLink RX8 7 "LentSoundsModel" "all" "[I", Cond.methodLink RX8 69 yX8_in, Cond.static yX8_in, Cond.code yX8_in cX8_in 6 (some .boolean), Cond.methodLink RX8 206 yX8_tries, Cond.instanceMethod yX8_tries, Cond.selects RX8 yX8_tries yX8_tries, Cond.code yX8_tries cX8_tries 2 none, Cond.fieldLink RX8 16 "LentSoundsModel" "tried" "[I", Cond.fieldLink RX8 52 "LentSoundsModel" "then" "[I", Cond.methodLink RX8 61 yX8_copy, Cond.static yX8_copy, Cond.code yX8_copy cX8_copy 3 none, Cond.methodLink RX8 109 yX8_plays, Cond.instanceMethod yX8_plays, Cond.selects RX8 yX8_plays yX8_plays]
def wsX8_cue_r2 : List Cond := [Cond.code yX8_plays cX8_plays 2 none, Cond.fieldLink RX8 99 "LentSoundsModel" "misses" "I", Cond.fieldLink RX8 102 "LentSoundsModel" "earMisses" "I", Cond.fieldLink RX8 37 "LentSoundsModel" "freeFrom" "[I", Cond.fieldLink RX8 40 "LentSoundsModel" "playedBy" "[I", Cond.fieldLink RX8 43 "LentSoundsModel" "walkedBy" "[I", Cond.fieldLink RX8 46 "LentSoundsModel" "usedIn" "[I", Cond.fieldLink RX8 49 "LentSoundsModel" "usedTill" "[I", Cond.methodLink RX8 105 yX8_comesTo, Cond.instanceMethod yX8_comesTo, Cond.selects RX8 yX8_comesTo yX8_comesTo, Cond.code yX8_comesTo cX8_comesTo 5 none, Cond.fieldLink RX8 34 "LentSoundsModel" "isLent" "[I", Cond.methodLink RX8 77 yX8_of, Cond.instanceMethod yX8_of, Cond.selects RX8 yX8_of yX8_of, Cond.code yX8_of cX8_of 3 (some .int), Cond.methodLink RX8 92 yX8_handFor, Cond.instanceMethod yX8_handFor, Cond.selects RX8 yX8_handFor yX8_handFor, Cond.code yX8_handFor cX8_handFor 6 (some .int), Cond.methodLink RX8 89 yX8_apart, Cond.static yX8_apart, Cond.code yX8_apart cX8_apart 2 (some .int)]
def wsX8_cue_r3 : List Cond := [Cond.methodLink RX8 95 yX8_isThere, Cond.instanceMethod yX8_isThere, Cond.selects RX8 yX8_isThere yX8_isThere, Cond.code yX8_isThere cX8_isThere 4 (some .boolean)]
def wsX8_cue : List Cond := .code yX8_cue cX8_cue 3 (some .int) :: ((wsX8_cue_r1 ++ (wsX8_cue_r2 ++ wsX8_cue_r3)) ++ wsX80)
def wsX8_hand_r1 : List Cond := [Cond.fieldLink RX8 7 "LentSoundsModel" "all" "[I", Cond.fieldLink RX8 40 "LentSoundsModel" "playedBy" "[I", Cond.fieldLink RX8 43 "LentSoundsModel" "walkedBy" "[I", Cond.fieldLink RX8 37 "LentSoundsModel" "freeFrom" "[I", Cond.fieldLink RX8 52 "LentSoundsModel" "then" "[I", Cond.methodLink RX8 135 yX8_isHand, Cond.instanceMethod yX8_isHand, Cond.selects RX8 yX8_isHand yX8_isHand, Cond.initialized RX8, Cond.code yX8_isHand cX8_isHand 2 (some .boolean), Cond.methodLink RX8 69 yX8_in, Cond.static yX8_in, Cond.code yX8_in cX8_in 6 (some .boolean), Cond.methodLink RX8 206 yX8_tries, Cond.instanceMethod yX8_tries, Cond.selects RX8 yX8_tries yX8_tries, Cond.code yX8_tries cX8_tries 2 none, Cond.fieldLink RX8 16 "LentSoundsModel" "tried" "[I", Cond.methodLink RX8 61 yX8_copy, Cond.static yX8_copy, Cond.code yX8_copy cX8_copy 3 none, Cond.methodLink RX8 109 yX8_plays, Cond.instanceMethod yX8_plays, Cond.selects RX8 yX8_plays yX8_plays]
def wsX8_hand_r2 : List Cond := [Cond.code yX8_plays cX8_plays 2 none, Cond.fieldLink RX8 99 "LentSoundsModel" "misses" "I", Cond.fieldLink RX8 102 "LentSoundsModel" "earMisses" "I", Cond.fieldLink RX8 46 "LentSoundsModel" "usedIn" "[I", Cond.fieldLink RX8 49 "LentSoundsModel" "usedTill" "[I", Cond.methodLink RX8 105 yX8_comesTo, Cond.instanceMethod yX8_comesTo, Cond.selects RX8 yX8_comesTo yX8_comesTo, Cond.code yX8_comesTo cX8_comesTo 5 none, Cond.fieldLink RX8 25 "LentSoundsModel" "handOf" "[I", Cond.fieldLink RX8 31 "LentSoundsModel" "wayOf" "[I", Cond.fieldLink RX8 34 "LentSoundsModel" "isLent" "[I", Cond.fieldLink RX8 28 "LentSoundsModel" "reasonOf" "[I", Cond.methodLink RX8 77 yX8_of, Cond.instanceMethod yX8_of, Cond.selects RX8 yX8_of yX8_of, Cond.code yX8_of cX8_of 3 (some .int), Cond.methodLink RX8 92 yX8_handFor, Cond.instanceMethod yX8_handFor, Cond.selects RX8 yX8_handFor yX8_handFor, Cond.code yX8_handFor cX8_handFor 6 (some .int), Cond.methodLink RX8 89 yX8_apart, Cond.static yX8_apart, Cond.code yX8_apart cX8_apart 2 (some .int)]
def wsX8_hand_r3 : List Cond := [Cond.methodLink RX8 95 yX8_isThere, Cond.instanceMethod yX8_isThere, Cond.selects RX8 yX8_isThere yX8_isThere, Cond.code yX8_isThere cX8_isThere 4 (some .boolean)]
def wsX8_hand : List Cond := .code yX8_hand cX8_hand 3 (some .int) :: ((wsX8_hand_r1 ++ (wsX8_hand_r2 ++ wsX8_hand_r3)) ++ wsX80)
def wsX8_firstTick : List Cond := .code yX8_firstTick cX8_firstTick 3 (some .int) :: ([.fieldLink RX8 7 "LentSoundsModel" "all" "[I", .methodLink RX8 77 yX8_of, .instanceMethod yX8_of, .selects RX8 yX8_of yX8_of, .initialized RX8, .code yX8_of cX8_of 3 (some .int)] ++ wsX80)
def wsX8_greatestEnd : List Cond := .code yX8_greatestEnd cX8_greatestEnd 5 (some .int) :: ([.fieldLink RX8 7 "LentSoundsModel" "all" "[I", .methodLink RX8 77 yX8_of, .instanceMethod yX8_of, .selects RX8 yX8_of yX8_of, .initialized RX8, .code yX8_of cX8_of 3 (some .int)] ++ wsX80)
def wsX8_missedOf_r1 : List Cond := [Cond.fieldLink RX8 7 "LentSoundsModel" "all" "[I", Cond.fieldLink RX8 28 "LentSoundsModel" "reasonOf" "[I", Cond.methodLink RX8 206 yX8_tries, Cond.instanceMethod yX8_tries, Cond.selects RX8 yX8_tries yX8_tries, Cond.initialized RX8, Cond.code yX8_tries cX8_tries 2 none, Cond.fieldLink RX8 16 "LentSoundsModel" "tried" "[I", Cond.fieldLink RX8 52 "LentSoundsModel" "then" "[I", Cond.methodLink RX8 61 yX8_copy, Cond.static yX8_copy, Cond.code yX8_copy cX8_copy 3 none, Cond.methodLink RX8 109 yX8_plays, Cond.instanceMethod yX8_plays, Cond.selects RX8 yX8_plays yX8_plays, Cond.code yX8_plays cX8_plays 2 none, Cond.fieldLink RX8 99 "LentSoundsModel" "misses" "I", Cond.fieldLink RX8 102 "LentSoundsModel" "earMisses" "I", Cond.fieldLink RX8 37 "LentSoundsModel" "freeFrom" "[I", Cond.fieldLink RX8 40 "LentSoundsModel" "playedBy" "[I", Cond.fieldLink RX8 43 "LentSoundsModel" "walkedBy" "[I", Cond.fieldLink RX8 46 "LentSoundsModel" "usedIn" "[I", Cond.fieldLink RX8 49 "LentSoundsModel" "usedTill" "[I", Cond.methodLink RX8 105 yX8_comesTo]
def wsX8_missedOf_r2 : List Cond := [Cond.instanceMethod yX8_comesTo, Cond.selects RX8 yX8_comesTo yX8_comesTo, Cond.code yX8_comesTo cX8_comesTo 5 none, Cond.fieldLink RX8 25 "LentSoundsModel" "handOf" "[I", Cond.fieldLink RX8 31 "LentSoundsModel" "wayOf" "[I", Cond.fieldLink RX8 34 "LentSoundsModel" "isLent" "[I", Cond.methodLink RX8 77 yX8_of, Cond.instanceMethod yX8_of, Cond.selects RX8 yX8_of yX8_of, Cond.code yX8_of cX8_of 3 (some .int), Cond.methodLink RX8 92 yX8_handFor, Cond.instanceMethod yX8_handFor, Cond.selects RX8 yX8_handFor yX8_handFor, Cond.code yX8_handFor cX8_handFor 6 (some .int), Cond.methodLink RX8 89 yX8_apart, Cond.static yX8_apart, Cond.code yX8_apart cX8_apart 2 (some .int), Cond.methodLink RX8 95 yX8_isThere, Cond.instanceMethod yX8_isThere, Cond.selects RX8 yX8_isThere yX8_isThere, Cond.code yX8_isThere cX8_isThere 4 (some .boolean)]
def wsX8_missedOf : List Cond := .code yX8_missedOf cX8_missedOf 4 (some .int) :: ((wsX8_missedOf_r1 ++ wsX8_missedOf_r2) ++ wsX80)
def wsX8_lentTo_r1 : List Cond := [Cond.fieldLink RX8 7 "LentSoundsModel" "all" "[I", Cond.fieldLink RX8 34 "LentSoundsModel" "isLent" "[I", Cond.methodLink RX8 206 yX8_tries, Cond.instanceMethod yX8_tries, Cond.selects RX8 yX8_tries yX8_tries, Cond.initialized RX8, Cond.code yX8_tries cX8_tries 2 none, Cond.fieldLink RX8 16 "LentSoundsModel" "tried" "[I", Cond.fieldLink RX8 52 "LentSoundsModel" "then" "[I", Cond.methodLink RX8 61 yX8_copy, Cond.static yX8_copy, Cond.code yX8_copy cX8_copy 3 none, Cond.methodLink RX8 109 yX8_plays, Cond.instanceMethod yX8_plays, Cond.selects RX8 yX8_plays yX8_plays, Cond.code yX8_plays cX8_plays 2 none, Cond.fieldLink RX8 99 "LentSoundsModel" "misses" "I", Cond.fieldLink RX8 102 "LentSoundsModel" "earMisses" "I", Cond.fieldLink RX8 37 "LentSoundsModel" "freeFrom" "[I", Cond.fieldLink RX8 40 "LentSoundsModel" "playedBy" "[I", Cond.fieldLink RX8 43 "LentSoundsModel" "walkedBy" "[I", Cond.fieldLink RX8 46 "LentSoundsModel" "usedIn" "[I", Cond.fieldLink RX8 49 "LentSoundsModel" "usedTill" "[I", Cond.methodLink RX8 105 yX8_comesTo]
def wsX8_lentTo_r2 : List Cond := [Cond.instanceMethod yX8_comesTo, Cond.selects RX8 yX8_comesTo yX8_comesTo, Cond.code yX8_comesTo cX8_comesTo 5 none, Cond.fieldLink RX8 25 "LentSoundsModel" "handOf" "[I", Cond.fieldLink RX8 31 "LentSoundsModel" "wayOf" "[I", Cond.fieldLink RX8 28 "LentSoundsModel" "reasonOf" "[I", Cond.methodLink RX8 77 yX8_of, Cond.instanceMethod yX8_of, Cond.selects RX8 yX8_of yX8_of, Cond.code yX8_of cX8_of 3 (some .int), Cond.methodLink RX8 92 yX8_handFor, Cond.instanceMethod yX8_handFor, Cond.selects RX8 yX8_handFor yX8_handFor, Cond.code yX8_handFor cX8_handFor 6 (some .int), Cond.methodLink RX8 89 yX8_apart, Cond.static yX8_apart, Cond.code yX8_apart cX8_apart 2 (some .int), Cond.methodLink RX8 95 yX8_isThere, Cond.instanceMethod yX8_isThere, Cond.selects RX8 yX8_isThere yX8_isThere, Cond.code yX8_isThere cX8_isThere 4 (some .boolean)]
def wsX8_lentTo : List Cond := .code yX8_lentTo cX8_lentTo 4 (some .int) :: ((wsX8_lentTo_r1 ++ wsX8_lentTo_r2) ++ wsX80)
def wsX8_scene_r1 : List Cond := [Cond.methodLink RX8 187 yX8_isScene, Cond.static yX8_isScene, Cond.initialized RX8, Cond.code yX8_isScene cX8_isScene 1 (some .boolean), Cond.constantLong RX8 73 (5), Cond.methodLink RX8 69 yX8_in, Cond.static yX8_in, Cond.code yX8_in cX8_in 6 (some .boolean), Cond.methodLink RX8 197 yX8_cuesOf, Cond.instanceMethod yX8_cuesOf, Cond.selects RX8 yX8_cuesOf yX8_cuesOf, Cond.code yX8_cuesOf cX8_cuesOf 4 (some .int), Cond.fieldLink RX8 7 "LentSoundsModel" "all" "[I", Cond.methodLink RX8 77 yX8_of, Cond.instanceMethod yX8_of, Cond.selects RX8 yX8_of yX8_of, Cond.code yX8_of cX8_of 3 (some .int), Cond.methodLink RX8 216 yX8_firstTick, Cond.instanceMethod yX8_firstTick, Cond.selects RX8 yX8_firstTick yX8_firstTick, Cond.code yX8_firstTick cX8_firstTick 3 (some .int), Cond.methodLink RX8 219 yX8_greatestEnd, Cond.instanceMethod yX8_greatestEnd, Cond.selects RX8 yX8_greatestEnd yX8_greatestEnd]
def wsX8_scene_r2 : List Cond := [Cond.code yX8_greatestEnd cX8_greatestEnd 5 (some .int), Cond.methodLink RX8 222 yX8_missedOf, Cond.instanceMethod yX8_missedOf, Cond.selects RX8 yX8_missedOf yX8_missedOf, Cond.code yX8_missedOf cX8_missedOf 4 (some .int), Cond.fieldLink RX8 28 "LentSoundsModel" "reasonOf" "[I", Cond.methodLink RX8 206 yX8_tries, Cond.instanceMethod yX8_tries, Cond.selects RX8 yX8_tries yX8_tries, Cond.code yX8_tries cX8_tries 2 none, Cond.fieldLink RX8 16 "LentSoundsModel" "tried" "[I", Cond.fieldLink RX8 52 "LentSoundsModel" "then" "[I", Cond.methodLink RX8 61 yX8_copy, Cond.static yX8_copy, Cond.code yX8_copy cX8_copy 3 none, Cond.methodLink RX8 109 yX8_plays, Cond.instanceMethod yX8_plays, Cond.selects RX8 yX8_plays yX8_plays, Cond.code yX8_plays cX8_plays 2 none, Cond.fieldLink RX8 99 "LentSoundsModel" "misses" "I", Cond.fieldLink RX8 102 "LentSoundsModel" "earMisses" "I", Cond.fieldLink RX8 37 "LentSoundsModel" "freeFrom" "[I", Cond.fieldLink RX8 40 "LentSoundsModel" "playedBy" "[I", Cond.fieldLink RX8 43 "LentSoundsModel" "walkedBy" "[I"]
def wsX8_scene_r3 : List Cond := [Cond.fieldLink RX8 46 "LentSoundsModel" "usedIn" "[I", Cond.fieldLink RX8 49 "LentSoundsModel" "usedTill" "[I", Cond.methodLink RX8 105 yX8_comesTo, Cond.instanceMethod yX8_comesTo, Cond.selects RX8 yX8_comesTo yX8_comesTo, Cond.code yX8_comesTo cX8_comesTo 5 none, Cond.fieldLink RX8 25 "LentSoundsModel" "handOf" "[I", Cond.fieldLink RX8 31 "LentSoundsModel" "wayOf" "[I", Cond.fieldLink RX8 34 "LentSoundsModel" "isLent" "[I", Cond.methodLink RX8 92 yX8_handFor, Cond.instanceMethod yX8_handFor, Cond.selects RX8 yX8_handFor yX8_handFor, Cond.code yX8_handFor cX8_handFor 6 (some .int), Cond.methodLink RX8 89 yX8_apart, Cond.static yX8_apart, Cond.code yX8_apart cX8_apart 2 (some .int), Cond.methodLink RX8 95 yX8_isThere, Cond.instanceMethod yX8_isThere, Cond.selects RX8 yX8_isThere yX8_isThere, Cond.code yX8_isThere cX8_isThere 4 (some .boolean), Cond.methodLink RX8 225 yX8_lentTo, Cond.instanceMethod yX8_lentTo, Cond.selects RX8 yX8_lentTo yX8_lentTo, Cond.code yX8_lentTo cX8_lentTo 4 (some .int)]
def wsX8_scene : List Cond := .code yX8_scene cX8_scene 3 (some .int) :: ((wsX8_scene_r1 ++ (wsX8_scene_r2 ++ wsX8_scene_r3)) ++ wsX80)
def wsX8_missed_r1 : List Cond := [Cond.fieldLink RX8 7 "LentSoundsModel" "all" "[I", Cond.fieldLink RX8 28 "LentSoundsModel" "reasonOf" "[I", Cond.methodLink RX8 206 yX8_tries, Cond.instanceMethod yX8_tries, Cond.selects RX8 yX8_tries yX8_tries, Cond.initialized RX8, Cond.code yX8_tries cX8_tries 2 none, Cond.fieldLink RX8 16 "LentSoundsModel" "tried" "[I", Cond.fieldLink RX8 52 "LentSoundsModel" "then" "[I", Cond.methodLink RX8 61 yX8_copy, Cond.static yX8_copy, Cond.code yX8_copy cX8_copy 3 none, Cond.methodLink RX8 109 yX8_plays, Cond.instanceMethod yX8_plays, Cond.selects RX8 yX8_plays yX8_plays, Cond.code yX8_plays cX8_plays 2 none, Cond.fieldLink RX8 99 "LentSoundsModel" "misses" "I", Cond.fieldLink RX8 102 "LentSoundsModel" "earMisses" "I", Cond.fieldLink RX8 37 "LentSoundsModel" "freeFrom" "[I", Cond.fieldLink RX8 40 "LentSoundsModel" "playedBy" "[I", Cond.fieldLink RX8 43 "LentSoundsModel" "walkedBy" "[I", Cond.fieldLink RX8 46 "LentSoundsModel" "usedIn" "[I", Cond.fieldLink RX8 49 "LentSoundsModel" "usedTill" "[I", Cond.methodLink RX8 105 yX8_comesTo]
def wsX8_missed_r2 : List Cond := [Cond.instanceMethod yX8_comesTo, Cond.selects RX8 yX8_comesTo yX8_comesTo, Cond.code yX8_comesTo cX8_comesTo 5 none, Cond.fieldLink RX8 25 "LentSoundsModel" "handOf" "[I", Cond.fieldLink RX8 31 "LentSoundsModel" "wayOf" "[I", Cond.fieldLink RX8 34 "LentSoundsModel" "isLent" "[I", Cond.methodLink RX8 77 yX8_of, Cond.instanceMethod yX8_of, Cond.selects RX8 yX8_of yX8_of, Cond.code yX8_of cX8_of 3 (some .int), Cond.methodLink RX8 92 yX8_handFor, Cond.instanceMethod yX8_handFor, Cond.selects RX8 yX8_handFor yX8_handFor, Cond.code yX8_handFor cX8_handFor 6 (some .int), Cond.methodLink RX8 89 yX8_apart, Cond.static yX8_apart, Cond.code yX8_apart cX8_apart 2 (some .int), Cond.methodLink RX8 95 yX8_isThere, Cond.instanceMethod yX8_isThere, Cond.selects RX8 yX8_isThere yX8_isThere, Cond.code yX8_isThere cX8_isThere 4 (some .boolean)]
def wsX8_missed : List Cond := .code yX8_missed cX8_missed 4 (some .int) :: ((wsX8_missed_r1 ++ wsX8_missed_r2) ++ wsX80)
def wsX8_ifHands_r1 : List Cond := [Cond.constantLong RX8 112 (4), Cond.fieldLink RX8 7 "LentSoundsModel" "all" "[I", Cond.fieldLink RX8 16 "LentSoundsModel" "tried" "[I", Cond.fieldLink RX8 102 "LentSoundsModel" "earMisses" "I", Cond.methodLink RX8 69 yX8_in, Cond.static yX8_in, Cond.initialized RX8, Cond.code yX8_in cX8_in 6 (some .boolean), Cond.methodLink RX8 61 yX8_copy, Cond.static yX8_copy, Cond.code yX8_copy cX8_copy 3 none, Cond.methodLink RX8 132 yX8_becomeHands, Cond.instanceMethod yX8_becomeHands, Cond.selects RX8 yX8_becomeHands yX8_becomeHands, Cond.code yX8_becomeHands cX8_becomeHands 3 none, Cond.methodLink RX8 109 yX8_plays, Cond.instanceMethod yX8_plays, Cond.selects RX8 yX8_plays yX8_plays, Cond.code yX8_plays cX8_plays 2 none, Cond.fieldLink RX8 99 "LentSoundsModel" "misses" "I", Cond.fieldLink RX8 37 "LentSoundsModel" "freeFrom" "[I", Cond.fieldLink RX8 40 "LentSoundsModel" "playedBy" "[I", Cond.fieldLink RX8 43 "LentSoundsModel" "walkedBy" "[I", Cond.fieldLink RX8 46 "LentSoundsModel" "usedIn" "[I"]
def wsX8_ifHands_r2 : List Cond := [Cond.fieldLink RX8 49 "LentSoundsModel" "usedTill" "[I", Cond.methodLink RX8 105 yX8_comesTo, Cond.instanceMethod yX8_comesTo, Cond.selects RX8 yX8_comesTo yX8_comesTo, Cond.code yX8_comesTo cX8_comesTo 5 none, Cond.fieldLink RX8 25 "LentSoundsModel" "handOf" "[I", Cond.fieldLink RX8 31 "LentSoundsModel" "wayOf" "[I", Cond.fieldLink RX8 34 "LentSoundsModel" "isLent" "[I", Cond.fieldLink RX8 28 "LentSoundsModel" "reasonOf" "[I", Cond.methodLink RX8 77 yX8_of, Cond.instanceMethod yX8_of, Cond.selects RX8 yX8_of yX8_of, Cond.code yX8_of cX8_of 3 (some .int), Cond.methodLink RX8 92 yX8_handFor, Cond.instanceMethod yX8_handFor, Cond.selects RX8 yX8_handFor yX8_handFor, Cond.code yX8_handFor cX8_handFor 6 (some .int), Cond.methodLink RX8 89 yX8_apart, Cond.static yX8_apart, Cond.code yX8_apart cX8_apart 2 (some .int), Cond.methodLink RX8 95 yX8_isThere, Cond.instanceMethod yX8_isThere, Cond.selects RX8 yX8_isThere yX8_isThere, Cond.code yX8_isThere cX8_isThere 4 (some .boolean)]
def wsX8_ifHands : List Cond := .code yX8_ifHands cX8_ifHands 2 (some .int) :: ((wsX8_ifHands_r1 ++ wsX8_ifHands_r2) ++ wsX80)
def wsX8_cleanTakes_r1 : List Cond := [Cond.fieldLink RX8 7 "LentSoundsModel" "all" "[I", Cond.fieldLink RX8 16 "LentSoundsModel" "tried" "[I", Cond.fieldLink RX8 99 "LentSoundsModel" "misses" "I", Cond.methodLink RX8 61 yX8_copy, Cond.static yX8_copy, Cond.initialized RX8, Cond.code yX8_copy cX8_copy 3 none, Cond.methodLink RX8 109 yX8_plays, Cond.instanceMethod yX8_plays, Cond.selects RX8 yX8_plays yX8_plays, Cond.code yX8_plays cX8_plays 2 none, Cond.fieldLink RX8 102 "LentSoundsModel" "earMisses" "I", Cond.fieldLink RX8 37 "LentSoundsModel" "freeFrom" "[I", Cond.fieldLink RX8 40 "LentSoundsModel" "playedBy" "[I", Cond.fieldLink RX8 43 "LentSoundsModel" "walkedBy" "[I", Cond.fieldLink RX8 46 "LentSoundsModel" "usedIn" "[I", Cond.fieldLink RX8 49 "LentSoundsModel" "usedTill" "[I", Cond.methodLink RX8 105 yX8_comesTo, Cond.instanceMethod yX8_comesTo, Cond.selects RX8 yX8_comesTo yX8_comesTo, Cond.code yX8_comesTo cX8_comesTo 5 none, Cond.fieldLink RX8 25 "LentSoundsModel" "handOf" "[I", Cond.fieldLink RX8 31 "LentSoundsModel" "wayOf" "[I", Cond.fieldLink RX8 34 "LentSoundsModel" "isLent" "[I"]
def wsX8_cleanTakes_r2 : List Cond := [Cond.fieldLink RX8 28 "LentSoundsModel" "reasonOf" "[I", Cond.methodLink RX8 77 yX8_of, Cond.instanceMethod yX8_of, Cond.selects RX8 yX8_of yX8_of, Cond.code yX8_of cX8_of 3 (some .int), Cond.methodLink RX8 92 yX8_handFor, Cond.instanceMethod yX8_handFor, Cond.selects RX8 yX8_handFor yX8_handFor, Cond.code yX8_handFor cX8_handFor 6 (some .int), Cond.methodLink RX8 89 yX8_apart, Cond.static yX8_apart, Cond.code yX8_apart cX8_apart 2 (some .int), Cond.methodLink RX8 95 yX8_isThere, Cond.instanceMethod yX8_isThere, Cond.selects RX8 yX8_isThere yX8_isThere, Cond.code yX8_isThere cX8_isThere 4 (some .boolean)]
def wsX8_cleanTakes : List Cond := .code yX8_cleanTakes cX8_cleanTakes 3 (some .int) :: ((wsX8_cleanTakes_r1 ++ wsX8_cleanTakes_r2) ++ wsX80)
def wsX8_wouldMiss_r1 : List Cond := [Cond.fieldLink RX8 102 "LentSoundsModel" "earMisses" "I", Cond.fieldLink RX8 99 "LentSoundsModel" "misses" "I", Cond.methodLink RX8 206 yX8_tries, Cond.instanceMethod yX8_tries, Cond.selects RX8 yX8_tries yX8_tries, Cond.initialized RX8, Cond.code yX8_tries cX8_tries 2 none, Cond.fieldLink RX8 7 "LentSoundsModel" "all" "[I", Cond.fieldLink RX8 16 "LentSoundsModel" "tried" "[I", Cond.fieldLink RX8 52 "LentSoundsModel" "then" "[I", Cond.methodLink RX8 61 yX8_copy, Cond.static yX8_copy, Cond.code yX8_copy cX8_copy 3 none, Cond.methodLink RX8 109 yX8_plays, Cond.instanceMethod yX8_plays, Cond.selects RX8 yX8_plays yX8_plays, Cond.code yX8_plays cX8_plays 2 none, Cond.fieldLink RX8 37 "LentSoundsModel" "freeFrom" "[I", Cond.fieldLink RX8 40 "LentSoundsModel" "playedBy" "[I", Cond.fieldLink RX8 43 "LentSoundsModel" "walkedBy" "[I", Cond.fieldLink RX8 46 "LentSoundsModel" "usedIn" "[I", Cond.fieldLink RX8 49 "LentSoundsModel" "usedTill" "[I", Cond.methodLink RX8 105 yX8_comesTo, Cond.instanceMethod yX8_comesTo]
def wsX8_wouldMiss_r2 : List Cond := [Cond.selects RX8 yX8_comesTo yX8_comesTo, Cond.code yX8_comesTo cX8_comesTo 5 none, Cond.fieldLink RX8 25 "LentSoundsModel" "handOf" "[I", Cond.fieldLink RX8 31 "LentSoundsModel" "wayOf" "[I", Cond.fieldLink RX8 34 "LentSoundsModel" "isLent" "[I", Cond.fieldLink RX8 28 "LentSoundsModel" "reasonOf" "[I", Cond.methodLink RX8 77 yX8_of, Cond.instanceMethod yX8_of, Cond.selects RX8 yX8_of yX8_of, Cond.code yX8_of cX8_of 3 (some .int), Cond.methodLink RX8 92 yX8_handFor, Cond.instanceMethod yX8_handFor, Cond.selects RX8 yX8_handFor yX8_handFor, Cond.code yX8_handFor cX8_handFor 6 (some .int), Cond.methodLink RX8 89 yX8_apart, Cond.static yX8_apart, Cond.code yX8_apart cX8_apart 2 (some .int), Cond.methodLink RX8 95 yX8_isThere, Cond.instanceMethod yX8_isThere, Cond.selects RX8 yX8_isThere yX8_isThere, Cond.code yX8_isThere cX8_isThere 4 (some .boolean)]
def wsX8_wouldMiss : List Cond := .code yX8_wouldMiss cX8_wouldMiss 2 (some .int) :: ((wsX8_wouldMiss_r1 ++ wsX8_wouldMiss_r2) ++ wsX80)
def wsX8_allCharges : List Cond := .code yX8_allCharges cX8_allCharges 3 (some .int) :: ([.fieldLink RX8 7 "LentSoundsModel" "all" "[I"] ++ wsX80)
def wsX8_count_r1 : List Cond := [Cond.fieldLink RX8 7 "LentSoundsModel" "all" "[I", Cond.fieldLink RX8 65 "LentSoundsModel" "historyLong" "I", Cond.fieldLink RX8 140 "LentSoundsModel" "textLong" "I", Cond.methodLink RX8 228 yX8_wouldMiss, Cond.instanceMethod yX8_wouldMiss, Cond.selects RX8 yX8_wouldMiss yX8_wouldMiss, Cond.initialized RX8, Cond.code yX8_wouldMiss cX8_wouldMiss 2 (some .int), Cond.fieldLink RX8 102 "LentSoundsModel" "earMisses" "I", Cond.fieldLink RX8 99 "LentSoundsModel" "misses" "I", Cond.methodLink RX8 206 yX8_tries, Cond.instanceMethod yX8_tries, Cond.selects RX8 yX8_tries yX8_tries, Cond.code yX8_tries cX8_tries 2 none, Cond.fieldLink RX8 16 "LentSoundsModel" "tried" "[I", Cond.fieldLink RX8 52 "LentSoundsModel" "then" "[I", Cond.methodLink RX8 61 yX8_copy, Cond.static yX8_copy, Cond.code yX8_copy cX8_copy 3 none, Cond.methodLink RX8 109 yX8_plays, Cond.instanceMethod yX8_plays, Cond.selects RX8 yX8_plays yX8_plays, Cond.code yX8_plays cX8_plays 2 none, Cond.fieldLink RX8 37 "LentSoundsModel" "freeFrom" "[I"]
def wsX8_count_r2 : List Cond := [Cond.fieldLink RX8 40 "LentSoundsModel" "playedBy" "[I", Cond.fieldLink RX8 43 "LentSoundsModel" "walkedBy" "[I", Cond.fieldLink RX8 46 "LentSoundsModel" "usedIn" "[I", Cond.fieldLink RX8 49 "LentSoundsModel" "usedTill" "[I", Cond.methodLink RX8 105 yX8_comesTo, Cond.instanceMethod yX8_comesTo, Cond.selects RX8 yX8_comesTo yX8_comesTo, Cond.code yX8_comesTo cX8_comesTo 5 none, Cond.fieldLink RX8 25 "LentSoundsModel" "handOf" "[I", Cond.fieldLink RX8 31 "LentSoundsModel" "wayOf" "[I", Cond.fieldLink RX8 34 "LentSoundsModel" "isLent" "[I", Cond.fieldLink RX8 28 "LentSoundsModel" "reasonOf" "[I", Cond.methodLink RX8 77 yX8_of, Cond.instanceMethod yX8_of, Cond.selects RX8 yX8_of yX8_of, Cond.code yX8_of cX8_of 3 (some .int), Cond.methodLink RX8 92 yX8_handFor, Cond.instanceMethod yX8_handFor, Cond.selects RX8 yX8_handFor yX8_handFor, Cond.code yX8_handFor cX8_handFor 6 (some .int), Cond.methodLink RX8 89 yX8_apart, Cond.static yX8_apart, Cond.code yX8_apart cX8_apart 2 (some .int), Cond.methodLink RX8 95 yX8_isThere]
def wsX8_count_r3 : List Cond := [Cond.instanceMethod yX8_isThere, Cond.selects RX8 yX8_isThere yX8_isThere, Cond.code yX8_isThere cX8_isThere 4 (some .boolean), Cond.methodLink RX8 232 yX8_allCharges, Cond.instanceMethod yX8_allCharges, Cond.selects RX8 yX8_allCharges yX8_allCharges, Cond.code yX8_allCharges cX8_allCharges 3 (some .int)]
def wsX8_count : List Cond := .code yX8_count cX8_count 2 (some .int) :: ((wsX8_count_r1 ++ (wsX8_count_r2 ++ wsX8_count_r3)) ++ wsX80)
def wsJ9_abs_0f7a4 : List Cond := .code yJ9_abs_0f7a4 cJ9_abs_0f7a4 1 (some .int) :: ([])
def wsJ9_max_7cf53 : List Cond := .code yJ9_max_7cf53 cJ9_max_7cf53 2 (some .int) :: ([])
def wsJ9_min_7cf53 : List Cond := .code yJ9_min_7cf53 cJ9_min_7cf53 2 (some .int) :: ([])
def wsL_law_r1 : List Cond := [Cond.classLink RL 7 RX7, Cond.instantiable RX7 7, Cond.initialized RX7, Cond.classLink RL 10 RX8, Cond.instantiable RX8 25, Cond.initialized RX8, Cond.methodLink RL 9 yX7_init, Cond.instanceMethod yX7_init, Cond.code yX7_init cX7_init 1 none, Cond.methodLink RX7 1 objectInit, Cond.instanceMethod objectInit, Cond.code objectInit ⟨#[0xb1]⟩ 1 none, Cond.classLink RX7 7 RX5, Cond.instantiable RX5 11, Cond.initialized RX5, Cond.fieldLink RX7 10 "LentSounds" "now" "LLentSounds$State;", Cond.fieldLink RX7 16 "LentSounds" "snapshot" "LLentSounds$State;", Cond.classLink RX7 19 RX2, Cond.instantiable RX2 2, Cond.initialized RX2, Cond.fieldLink RX7 22 "LentSounds" "history" "LLentSounds$History;", Cond.classLink RX7 26 RX6, Cond.instantiable RX6 2, Cond.initialized RX6]
def wsL_law_r2 : List Cond := [Cond.fieldLink RX7 29 "LentSounds" "text" "LLentSounds$Text;", Cond.classLink RX7 33 RX1, Cond.instantiable RX1 4, Cond.initialized RX1, Cond.fieldLink RX7 36 "LentSounds" "reader" "LLentSounds$CueReader;", Cond.classLink RX7 40 RX3, Cond.instantiable RX3 15, Cond.initialized RX3, Cond.fieldLink RX7 43 "LentSounds" "rehearsal" "LLentSounds$Rehearsal;", Cond.fieldLink RX7 47 "LentSounds" "hasSnapshot" "Z", Cond.methodLink RX7 9 yX5_init, Cond.instanceMethod yX5_init, Cond.code yX5_init cX5_init 2 none, Cond.methodLink RX5 3 objectInit, Cond.classLink RX5 9 RX4, Cond.instantiable RX4 1, Cond.initialized RX4, Cond.fieldLink RX5 14 "LentSounds$State" "soundShelves" "LLentSounds$Row;", Cond.fieldLink RX5 20 "LentSounds$State" "charges" "LLentSounds$Row;", Cond.fieldLink RX5 23 "LentSounds$State" "loudness" "LLentSounds$Row;", Cond.fieldLink RX5 26 "LentSounds$State" "handShelves" "LLentSounds$Row;", Cond.classLink RX5 29 RX0, Cond.instantiable RX0 6, Cond.initialized RX0]
def wsL_law_r3 : List Cond := [Cond.fieldLink RX5 32 "LentSounds$State" "cues" "LLentSounds$CueList;", Cond.fieldLink RX5 36 "LentSounds$State" "hands" "I", Cond.fieldLink RX5 40 "LentSounds$State" "carrying" "I", Cond.fieldLink RX5 43 "LentSounds$State" "takes" "I", Cond.fieldLink RX5 46 "LentSounds$State" "playedCues" "I", Cond.fieldLink RX5 49 "LentSounds$State" "missedCues" "I", Cond.fieldLink RX5 52 "LentSounds$State" "missedByEar" "I", Cond.methodLink RX5 11 yX4_init, Cond.instanceMethod yX4_init, Cond.code yX4_init cX4_init 2 none, Cond.methodLink RX4 1 objectInit, Cond.methodLink RX4 7 Lib.Math.max.name, Cond.static Lib.Math.max.name, Cond.initialized "java/lang/Math", Cond.code Lib.Math.max.name Lib.Math.max.code 2 (some .int), Cond.arrayClass .int, Cond.fieldLink RX4 13 "LentSounds$Row" "cells" "[I", Cond.methodLink RX5 31 yX0_init, Cond.instanceMethod yX0_init, Cond.code yX0_init cX0_init 2 none, Cond.methodLink RX0 3 objectInit, Cond.fieldLink RX0 9 "LentSounds$CueList" "size" "I", Cond.fieldLink RX0 15 "LentSounds$CueList" "capacity" "I", Cond.classLink RX0 18 RX4]
def wsL_law_r4 : List Cond := [Cond.fieldLink RX0 23 "LentSounds$CueList" "ticks" "LLentSounds$Row;", Cond.fieldLink RX0 27 "LentSounds$CueList" "scenes" "LLentSounds$Row;", Cond.fieldLink RX0 30 "LentSounds$CueList" "sounds" "LLentSounds$Row;", Cond.fieldLink RX0 33 "LentSounds$CueList" "lengths" "LLentSounds$Row;", Cond.methodLink RX0 20 yX4_init, Cond.methodLink RX5 55 yX4_put, Cond.instanceMethod yX4_put, Cond.selects RX4 yX4_put yX4_put, Cond.code yX4_put cX4_put 3 none, Cond.methodLink RX7 21 yX2_init, Cond.instanceMethod yX2_init, Cond.code yX2_init cX2_init 2 none, Cond.methodLink RX2 3 objectInit, Cond.classLink RX2 9 RX5, Cond.fieldLink RX2 11 "LentSounds$History" "states" "[LLentSounds$State;", Cond.fieldLink RX2 17 "LentSounds$History" "size" "I", Cond.methodLink RX2 21 yX5_init, Cond.instanceMethod yX6_init, Cond.code yX6_init cX6_init 1 none, Cond.methodLink RX6 3 objectInit, Cond.classLink RX6 9 RX4, Cond.fieldLink RX6 14 "LentSounds$Text" "characters" "LLentSounds$Row;", Cond.fieldLink RX6 20 "LentSounds$Text" "length" "I", Cond.methodLink RX6 11 yX4_init]
def wsL_law_r5 : List Cond := [Cond.instanceMethod yX1_init, Cond.code yX1_init cX1_init 1 none, Cond.methodLink RX1 3 objectInit, Cond.classLink RX1 9 RX0, Cond.fieldLink RX1 14 "LentSounds$CueReader" "drafts" "LLentSounds$CueList;", Cond.fieldLink RX1 20 "LentSounds$CueReader" "position" "I", Cond.fieldLink RX1 24 "LentSounds$CueReader" "faulty" "Z", Cond.fieldLink RX1 28 "LentSounds$CueReader" "foundTwice" "Z", Cond.methodLink RX1 11 yX0_init, Cond.instanceMethod yX3_init, Cond.code yX3_init cX3_init 1 none, Cond.methodLink RX3 3 objectInit, Cond.classLink RX3 9 RX4, Cond.fieldLink RX3 14 "LentSounds$Rehearsal" "charges" "LLentSounds$Row;", Cond.fieldLink RX3 20 "LentSounds$Rehearsal" "latestScenes" "LLentSounds$Row;", Cond.fieldLink RX3 23 "LentSounds$Rehearsal" "latestEnds" "LLentSounds$Row;", Cond.fieldLink RX3 26 "LentSounds$Rehearsal" "handShelves" "LLentSounds$Row;", Cond.fieldLink RX3 29 "LentSounds$Rehearsal" "freeFrom" "LLentSounds$Row;", Cond.fieldLink RX3 32 "LentSounds$Rehearsal" "handPlays" "LLentSounds$Row;", Cond.fieldLink RX3 35 "LentSounds$Rehearsal" "handWays" "LLentSounds$Row;", Cond.fieldLink RX3 38 "LentSounds$Rehearsal" "players" "LLentSounds$Row;", Cond.fieldLink RX3 41 "LentSounds$Rehearsal" "reasons" "LLentSounds$Row;", Cond.fieldLink RX3 44 "LentSounds$Rehearsal" "ways" "LLentSounds$Row;", Cond.fieldLink RX3 47 "LentSounds$Rehearsal" "sceneMisses" "LLentSounds$Row;"]
def wsL_law_r6 : List Cond := [Cond.fieldLink RX3 50 "LentSounds$Rehearsal" "sceneLoans" "LLentSounds$Row;", Cond.fieldLink RX3 53 "LentSounds$Rehearsal" "hands" "I", Cond.fieldLink RX3 57 "LentSounds$Rehearsal" "missedCues" "I", Cond.fieldLink RX3 60 "LentSounds$Rehearsal" "missedByEar" "I", Cond.methodLink RX3 11 yX4_init, Cond.methodLink RL 12 yX8_init, Cond.instanceMethod yX8_init, Cond.code yX8_init cX8_init 2 none, Cond.methodLink RX8 1 objectInit, Cond.fieldLink RX8 7 "LentSoundsModel" "all" "[I", Cond.fieldLink RX8 13 "LentSoundsModel" "kept" "[I", Cond.fieldLink RX8 16 "LentSoundsModel" "tried" "[I", Cond.fieldLink RX8 19 "LentSoundsModel" "history" "[I", Cond.fieldLink RX8 22 "LentSoundsModel" "snapshot" "[I", Cond.fieldLink RX8 25 "LentSoundsModel" "handOf" "[I", Cond.fieldLink RX8 28 "LentSoundsModel" "reasonOf" "[I", Cond.fieldLink RX8 31 "LentSoundsModel" "wayOf" "[I", Cond.fieldLink RX8 34 "LentSoundsModel" "isLent" "[I", Cond.fieldLink RX8 37 "LentSoundsModel" "freeFrom" "[I", Cond.fieldLink RX8 40 "LentSoundsModel" "playedBy" "[I", Cond.fieldLink RX8 43 "LentSoundsModel" "walkedBy" "[I", Cond.fieldLink RX8 46 "LentSoundsModel" "usedIn" "[I", Cond.fieldLink RX8 49 "LentSoundsModel" "usedTill" "[I", Cond.fieldLink RX8 52 "LentSoundsModel" "then" "[I"]
def wsL_law_r7 : List Cond := [Cond.fieldLink RX8 55 "LentSoundsModel" "text" "[I", Cond.fieldLink RX8 58 "LentSoundsModel" "read" "[I", Cond.methodLink RL 13 yX7_setSound, Cond.instanceMethod yX7_setSound, Cond.selects RX7 yX7_setSound yX7_setSound, Cond.code yX7_setSound cX7_setSound 6 (some .int), Cond.methodLink RX7 51 yX7_isBelow, Cond.static yX7_isBelow, Cond.code yX7_isBelow cX7_isBelow 2 (some .boolean), Cond.methodLink RX7 55 yX7_isSoundValue, Cond.static yX7_isSoundValue, Cond.code yX7_isSoundValue cX7_isSoundValue 2 (some .boolean), Cond.methodLink RX7 76 yX7_isWithin, Cond.static yX7_isWithin, Cond.code yX7_isWithin cX7_isWithin 3 (some .boolean), Cond.methodLink RX7 58 yX5_soundRow, Cond.instanceMethod yX5_soundRow, Cond.selects RX5 yX5_soundRow yX5_soundRow, Cond.code yX5_soundRow cX5_soundRow 2 (some (.object "LentSounds$Row")), Cond.methodLink RX7 62 yX4_get, Cond.instanceMethod yX4_get, Cond.selects RX4 yX4_get yX4_get, Cond.code yX4_get cX4_get 2 (some .int), Cond.methodLink RX7 68 yX2_record]
def wsL_law_r8 : List Cond := [Cond.instanceMethod yX2_record, Cond.selects RX2 yX2_record yX2_record, Cond.code yX2_record cX2_record 3 none, Cond.methodLink RX2 22 yX2_dropOldest, Cond.instanceMethod yX2_dropOldest, Cond.selects RX2 yX2_dropOldest yX2_dropOldest, Cond.code yX2_dropOldest cX2_dropOldest 3 none, Cond.methodLink RX2 25 yX2_at, Cond.instanceMethod yX2_at, Cond.selects RX2 yX2_at yX2_at, Cond.code yX2_at cX2_at 2 (some (.object "LentSounds$State")), Cond.methodLink RX2 29 yX5_copyFrom, Cond.instanceMethod yX5_copyFrom, Cond.selects RX5 yX5_copyFrom yX5_copyFrom, Cond.code yX5_copyFrom cX5_copyFrom 2 none, Cond.methodLink RX5 59 yX4_copyFrom, Cond.instanceMethod yX4_copyFrom, Cond.selects RX4 yX4_copyFrom yX4_copyFrom, Cond.code yX4_copyFrom cX4_copyFrom 3 none, Cond.methodLink RX4 27 Lib.Math.min.name, Cond.static Lib.Math.min.name, Cond.code Lib.Math.min.name Lib.Math.min.code 2 (some .int), Cond.methodLink RX4 30 arraycopyName, Cond.native arraycopyName]
def wsL_law_r9 : List Cond := [Cond.static arraycopyName, Cond.initialized "java/lang/System", Cond.methodLink RX5 63 yX0_copyFrom, Cond.instanceMethod yX0_copyFrom, Cond.selects RX0 yX0_copyFrom yX0_copyFrom, Cond.code yX0_copyFrom cX0_copyFrom 2 none, Cond.methodLink RX0 40 Lib.Math.min.name, Cond.methodLink RX0 36 yX4_copyFrom, Cond.methodLink RX7 72 yX4_put, Cond.methodLink RL 17 yX8_setSound, Cond.instanceMethod yX8_setSound, Cond.selects RX8 yX8_setSound yX8_setSound, Cond.code yX8_setSound cX8_setSound 4 (some .int), Cond.methodLink RX8 122 yX8_isSound, Cond.static yX8_isSound, Cond.code yX8_isSound cX8_isSound 1 (some .boolean), Cond.constantLong RX8 75 (9), Cond.methodLink RX8 69 yX8_in, Cond.static yX8_in, Cond.code yX8_in cX8_in 6 (some .boolean), Cond.methodLink RX8 125 yX8_isValue, Cond.static yX8_isValue, Cond.code yX8_isValue cX8_isValue 2 (some .boolean), Cond.constantLong RX8 112 (4)]
def wsL_law_r10 : List Cond := [Cond.constantLong RX8 114 (30), Cond.methodLink RX8 129 yX8_sets, Cond.instanceMethod yX8_sets, Cond.selects RX8 yX8_sets yX8_sets, Cond.code yX8_sets cX8_sets 4 (some .int), Cond.methodLink RX8 116 yX8_remember, Cond.instanceMethod yX8_remember, Cond.selects RX8 yX8_remember yX8_remember, Cond.code yX8_remember cX8_remember 1 none, Cond.methodLink RX8 61 yX8_copy, Cond.static yX8_copy, Cond.code yX8_copy cX8_copy 3 none, Cond.methodLink RX8 119 yX8_acted, Cond.instanceMethod yX8_acted, Cond.selects RX8 yX8_acted yX8_acted, Cond.code yX8_acted cX8_acted 3 (some .int), Cond.fieldLink RX8 65 "LentSoundsModel" "historyLong" "I", Cond.methodLink RL 18 yX7_setHands, Cond.instanceMethod yX7_setHands, Cond.selects RX7 yX7_setHands yX7_setHands, Cond.code yX7_setHands cX7_setHands 4 (some .int), Cond.methodLink RL 22 yX8_setHands, Cond.instanceMethod yX8_setHands, Cond.selects RX8 yX8_setHands yX8_setHands]
def wsL_law_r11 : List Cond := [Cond.code yX8_setHands cX8_setHands 3 (some .int), Cond.methodLink RX8 132 yX8_becomeHands, Cond.instanceMethod yX8_becomeHands, Cond.selects RX8 yX8_becomeHands yX8_becomeHands, Cond.code yX8_becomeHands cX8_becomeHands 3 none, Cond.methodLink RL 23 yX7_send, Cond.instanceMethod yX7_send, Cond.selects RX7 yX7_send yX7_send, Cond.code yX7_send cX7_send 4 (some .int), Cond.methodLink RL 27 yX8_send, Cond.instanceMethod yX8_send, Cond.selects RX8 yX8_send yX8_send, Cond.code yX8_send cX8_send 3 (some .int), Cond.methodLink RX8 135 yX8_isHand, Cond.instanceMethod yX8_isHand, Cond.selects RX8 yX8_isHand yX8_isHand, Cond.code yX8_isHand cX8_isHand 2 (some .boolean), Cond.methodLink RL 28 yX7_setCarrying, Cond.instanceMethod yX7_setCarrying, Cond.selects RX7 yX7_setCarrying yX7_setCarrying, Cond.code yX7_setCarrying cX7_setCarrying 3 (some .int), Cond.methodLink RL 31 yX8_setCarrying, Cond.instanceMethod yX8_setCarrying, Cond.selects RX8 yX8_setCarrying yX8_setCarrying]
def wsL_law_r12 : List Cond := [Cond.code yX8_setCarrying cX8_setCarrying 2 (some .int), Cond.constantLong RX8 138 (20), Cond.methodLink RL 32 yX7_readCues, Cond.instanceMethod yX7_readCues, Cond.selects RX7 yX7_readCues yX7_readCues, Cond.code yX7_readCues cX7_readCues 1 (some .int), Cond.methodLink RX7 95 yX1_readBehind, Cond.instanceMethod yX1_readBehind, Cond.selects RX1 yX1_readBehind yX1_readBehind, Cond.code yX1_readBehind cX1_readBehind 4 none, Cond.methodLink RX1 31 yX0_copyFrom, Cond.methodLink RX1 35 yX1_readCue, Cond.instanceMethod yX1_readCue, Cond.selects RX1 yX1_readCue yX1_readCue, Cond.code yX1_readCue cX1_readCue 6 none, Cond.methodLink RX1 51 yX1_readNumber, Cond.instanceMethod yX1_readNumber, Cond.selects RX1 yX1_readNumber yX1_readNumber, Cond.code yX1_readNumber cX1_readNumber 6 (some .int), Cond.methodLink RX1 70 yX1_digitAt, Cond.static yX1_digitAt, Cond.code yX1_digitAt cX1_digitAt 3 (some .int), Cond.methodLink RX1 55 yX6_at, Cond.instanceMethod yX6_at]
def wsL_law_r13 : List Cond := [Cond.selects RX6 yX6_at yX6_at, Cond.code yX6_at cX6_at 2 (some .int), Cond.methodLink RX6 32 yX4_get, Cond.methodLink RX1 44 yX1_readSign, Cond.instanceMethod yX1_readSign, Cond.selects RX1 yX1_readSign yX1_readSign, Cond.code yX1_readSign cX1_readSign 3 none, Cond.methodLink RX1 59 yX1_addDraft, Cond.instanceMethod yX1_addDraft, Cond.selects RX1 yX1_addDraft yX1_addDraft, Cond.code yX1_addDraft cX1_addDraft 5 none, Cond.methodLink RX1 63 yX0_has, Cond.instanceMethod yX0_has, Cond.selects RX0 yX0_has yX0_has, Cond.code yX0_has cX0_has 5 (some .boolean), Cond.methodLink RX0 46 yX4_get, Cond.methodLink RX1 67 yX0_append, Cond.instanceMethod yX0_append, Cond.selects RX0 yX0_append yX0_append, Cond.code yX0_append cX0_append 5 none, Cond.methodLink RX0 50 yX4_put, Cond.methodLink RX1 48 yX0_putInOrder, Cond.instanceMethod yX0_putInOrder, Cond.selects RX0 yX0_putInOrder yX0_putInOrder]
def wsL_law_r14 : List Cond := [Cond.code yX0_putInOrder cX0_putInOrder 2 none, Cond.methodLink RX0 54 yX0_moveToItsPlace, Cond.instanceMethod yX0_moveToItsPlace, Cond.selects RX0 yX0_moveToItsPlace yX0_moveToItsPlace, Cond.code yX0_moveToItsPlace cX0_moveToItsPlace 3 none, Cond.methodLink RX0 80 yX0_order, Cond.instanceMethod yX0_order, Cond.selects RX0 yX0_order yX0_order, Cond.code yX0_order cX0_order 2 (some .int), Cond.methodLink RX0 57 yX0_swap, Cond.instanceMethod yX0_swap, Cond.selects RX0 yX0_swap yX0_swap, Cond.code yX0_swap cX0_swap 3 none, Cond.methodLink RX0 83 yX4_swap, Cond.instanceMethod yX4_swap, Cond.selects RX4 yX4_swap yX4_swap, Cond.code yX4_swap cX4_swap 4 none, Cond.methodLink RX4 19 yX4_get, Cond.methodLink RX4 23 yX4_put, Cond.methodLink RX7 116 yX0_copyFrom, Cond.methodLink RL 36 yX8_readCues, Cond.instanceMethod yX8_readCues, Cond.selects RX8 yX8_readCues yX8_readCues, Cond.code yX8_readCues cX8_readCues 3 (some .int)]
def wsL_law_r15 : List Cond := [Cond.fieldLink RX8 152 "LentSoundsModel" "readMany" "I", Cond.methodLink RX8 168 yX8_fault, Cond.instanceMethod yX8_fault, Cond.selects RX8 yX8_fault yX8_fault, Cond.code yX8_fault cX8_fault 2 (some .int), Cond.fieldLink RX8 143 "LentSoundsModel" "spot" "I", Cond.fieldLink RX8 140 "LentSoundsModel" "textLong" "I", Cond.methodLink RX8 161 yX8_readsCue, Cond.instanceMethod yX8_readsCue, Cond.selects RX8 yX8_readsCue yX8_readsCue, Cond.code yX8_readsCue cX8_readsCue 2 (some .boolean), Cond.fieldLink RX8 149 "LentSoundsModel" "number" "I", Cond.methodLink RX8 155 yX8_readsNumber, Cond.instanceMethod yX8_readsNumber, Cond.selects RX8 yX8_readsNumber yX8_readsNumber, Cond.code yX8_readsNumber cX8_readsNumber 3 (some .boolean), Cond.methodLink RX8 146 yX8_isHere, Cond.instanceMethod yX8_isHere, Cond.selects RX8 yX8_isHere yX8_isHere, Cond.code yX8_isHere cX8_isHere 3 (some .boolean), Cond.methodLink RX8 158 yX8_takes, Cond.instanceMethod yX8_takes, Cond.selects RX8 yX8_takes yX8_takes, Cond.code yX8_takes cX8_takes 3 (some .boolean)]
def wsL_law_r16 : List Cond := [Cond.methodLink RX8 172 yX8_isTwice, Cond.instanceMethod yX8_isTwice, Cond.selects RX8 yX8_isTwice yX8_isTwice, Cond.code yX8_isTwice cX8_isTwice 4 (some .boolean), Cond.methodLink RX8 85 yX8_rankAt, Cond.instanceMethod yX8_rankAt, Cond.selects RX8 yX8_rankAt yX8_rankAt, Cond.code yX8_rankAt cX8_rankAt 2 (some .int), Cond.methodLink RX8 77 yX8_of, Cond.instanceMethod yX8_of, Cond.selects RX8 yX8_of yX8_of, Cond.code yX8_of cX8_of 3 (some .int), Cond.methodLink RX8 81 yX8_rankOf, Cond.static yX8_rankOf, Cond.code yX8_rankOf cX8_rankOf 3 (some .int), Cond.methodLink RX8 165 yX8_rankRead, Cond.instanceMethod yX8_rankRead, Cond.selects RX8 yX8_rankRead yX8_rankRead, Cond.code yX8_rankRead cX8_rankRead 2 (some .int), Cond.methodLink RX8 175 yX8_putsIn, Cond.instanceMethod yX8_putsIn, Cond.selects RX8 yX8_putsIn yX8_putsIn, Cond.code yX8_putsIn cX8_putsIn 7 none, Cond.methodLink RL 37 yX7_removeCue]
def wsL_law_r17 : List Cond := [Cond.instanceMethod yX7_removeCue, Cond.selects RX7 yX7_removeCue yX7_removeCue, Cond.code yX7_removeCue cX7_removeCue 2 (some .int), Cond.methodLink RX7 120 yX0_removeAt, Cond.instanceMethod yX0_removeAt, Cond.selects RX0 yX0_removeAt yX0_removeAt, Cond.code yX0_removeAt cX0_removeAt 3 none, Cond.methodLink RL 40 yX8_removeCue, Cond.instanceMethod yX8_removeCue, Cond.selects RX8 yX8_removeCue yX8_removeCue, Cond.code yX8_removeCue cX8_removeCue 2 (some .int), Cond.methodLink RX8 179 yX8_isCue, Cond.instanceMethod yX8_isCue, Cond.selects RX8 yX8_isCue yX8_isCue, Cond.code yX8_isCue cX8_isCue 2 (some .boolean), Cond.methodLink RX8 182 yX8_takesOut, Cond.instanceMethod yX8_takesOut, Cond.selects RX8 yX8_takesOut yX8_takesOut, Cond.code yX8_takesOut cX8_takesOut 3 none, Cond.methodLink RL 41 yX7_shift, Cond.instanceMethod yX7_shift, Cond.selects RX7 yX7_shift yX7_shift, Cond.code yX7_shift cX7_shift 4 (some .int), Cond.methodLink RX7 124 yX0_canMove]
def wsL_law_r18 : List Cond := [Cond.instanceMethod yX0_canMove, Cond.selects RX0 yX0_canMove yX0_canMove, Cond.code yX0_canMove cX0_canMove 4 (some .boolean), Cond.methodLink RX7 127 yX0_sizeOfScene, Cond.instanceMethod yX0_sizeOfScene, Cond.selects RX0 yX0_sizeOfScene yX0_sizeOfScene, Cond.code yX0_sizeOfScene cX0_sizeOfScene 2 (some .int), Cond.methodLink RX0 70 yX0_timesIn, Cond.instanceMethod yX0_timesIn, Cond.selects RX0 yX0_timesIn yX0_timesIn, Cond.code yX0_timesIn cX0_timesIn 5 (some .int), Cond.methodLink RX7 130 yX0_moveScene, Cond.instanceMethod yX0_moveScene, Cond.selects RX0 yX0_moveScene yX0_moveScene, Cond.code yX0_moveScene cX0_moveScene 4 none, Cond.methodLink RX0 64 yX4_increase, Cond.instanceMethod yX4_increase, Cond.selects RX4 yX4_increase yX4_increase, Cond.code yX4_increase cX4_increase 3 none, Cond.methodLink RX0 67 yX0_putInOrder, Cond.methodLink RL 44 yX8_shift, Cond.instanceMethod yX8_shift, Cond.selects RX8 yX8_shift yX8_shift, Cond.code yX8_shift cX8_shift 5 (some .int)]
def wsL_law_r19 : List Cond := [Cond.constantLong RX8 190 (-99), Cond.constantLong RX8 192 (99), Cond.methodLink RX8 187 yX8_isScene, Cond.static yX8_isScene, Cond.code yX8_isScene cX8_isScene 1 (some .boolean), Cond.constantLong RX8 73 (5), Cond.methodLink RX8 194 yX8_canShift, Cond.instanceMethod yX8_canShift, Cond.selects RX8 yX8_canShift yX8_canShift, Cond.code yX8_canShift cX8_canShift 5 (some .boolean), Cond.constantLong RX8 185 (999), Cond.methodLink RX8 197 yX8_cuesOf, Cond.instanceMethod yX8_cuesOf, Cond.selects RX8 yX8_cuesOf yX8_cuesOf, Cond.code yX8_cuesOf cX8_cuesOf 4 (some .int), Cond.methodLink RX8 200 yX8_takesOutScene, Cond.instanceMethod yX8_takesOutScene, Cond.selects RX8 yX8_takesOutScene yX8_takesOutScene, Cond.code yX8_takesOutScene cX8_takesOutScene 3 none, Cond.methodLink RL 45 yX7_cutScene, Cond.instanceMethod yX7_cutScene, Cond.selects RX7 yX7_cutScene yX7_cutScene, Cond.code yX7_cutScene cX7_cutScene 3 (some .int), Cond.methodLink RX7 133 yX0_removeScene]
def wsL_law_r20 : List Cond := [Cond.instanceMethod yX0_removeScene, Cond.selects RX0 yX0_removeScene yX0_removeScene, Cond.code yX0_removeScene cX0_removeScene 4 none, Cond.methodLink RL 48 yX8_cutScene, Cond.instanceMethod yX8_cutScene, Cond.selects RX8 yX8_cutScene yX8_cutScene, Cond.code yX8_cutScene cX8_cutScene 3 (some .int), Cond.methodLink RL 49 yX7_take, Cond.instanceMethod yX7_take, Cond.selects RX7 yX7_take yX7_take, Cond.code yX7_take cX7_take 1 (some .int), Cond.methodLink RX7 136 yX7_rehearse, Cond.instanceMethod yX7_rehearse, Cond.selects RX7 yX7_rehearse yX7_rehearse, Cond.code yX7_rehearse cX7_rehearse 2 none, Cond.methodLink RX7 238 yX3_begin, Cond.instanceMethod yX3_begin, Cond.selects RX3 yX3_begin yX3_begin, Cond.code yX3_begin cX3_begin 5 none, Cond.methodLink RX3 66 yX4_copyFrom, Cond.methodLink RX3 72 yX4_get, Cond.methodLink RX3 76 yX4_put, Cond.methodLink RX7 242 yX3_playTake, Cond.instanceMethod yX3_playTake]
def wsL_law_r21 : List Cond := [Cond.selects RX3 yX3_playTake yX3_playTake, Cond.code yX3_playTake cX3_playTake 3 none, Cond.methodLink RX3 80 yX4_fill, Cond.instanceMethod yX4_fill, Cond.selects RX4 yX4_fill yX4_fill, Cond.code yX4_fill cX4_fill 3 none, Cond.methodLink RX3 92 yX3_doCue, Cond.instanceMethod yX3_doCue, Cond.selects RX3 yX3_doCue yX3_doCue, Cond.code yX3_doCue cX3_doCue 6 none, Cond.methodLink RX3 105 yX3_nearestHand, Cond.instanceMethod yX3_nearestHand, Cond.selects RX3 yX3_nearestHand yX3_nearestHand, Cond.code yX3_nearestHand cX3_nearestHand 7 (some .int), Cond.methodLink RX3 130 yX3_wayTo, Cond.instanceMethod yX3_wayTo, Cond.selects RX3 yX3_wayTo yX3_wayTo, Cond.code yX3_wayTo cX3_wayTo 3 (some .int), Cond.methodLink RX3 133 Lib.Math.abs.name, Cond.static Lib.Math.abs.name, Cond.code Lib.Math.abs.name Lib.Math.abs.code 1 (some .int), Cond.methodLink RX3 109 yX3_reasonToMiss, Cond.instanceMethod yX3_reasonToMiss, Cond.selects RX3 yX3_reasonToMiss yX3_reasonToMiss]
def wsL_law_r22 : List Cond := [Cond.code yX3_reasonToMiss cX3_reasonToMiss 7 (some .int), Cond.methodLink RX3 123 yX3_isLent, Cond.instanceMethod yX3_isLent, Cond.selects RX3 yX3_isLent yX3_isLent, Cond.code yX3_isLent cX3_isLent 4 (some .boolean), Cond.methodLink RX3 113 yX3_play, Cond.instanceMethod yX3_play, Cond.selects RX3 yX3_play yX3_play, Cond.code yX3_play cX3_play 8 none, Cond.methodLink RX3 138 yX4_increase, Cond.methodLink RX3 141 yX0_endOf, Cond.instanceMethod yX0_endOf, Cond.selects RX0 yX0_endOf yX0_endOf, Cond.code yX0_endOf cX0_endOf 2 (some .int), Cond.methodLink RX3 117 yX3_miss, Cond.instanceMethod yX3_miss, Cond.selects RX3 yX3_miss yX3_miss, Cond.code yX3_miss cX3_miss 3 none, Cond.methodLink RX7 143 yX4_copyFrom, Cond.methodLink RL 52 yX8_take, Cond.instanceMethod yX8_take, Cond.selects RX8 yX8_take yX8_take, Cond.code yX8_take cX8_take 1 (some .int), Cond.fieldLink RX8 99 "LentSoundsModel" "misses" "I"]
def wsL_law_r23 : List Cond := [Cond.fieldLink RX8 102 "LentSoundsModel" "earMisses" "I", Cond.methodLink RX8 109 yX8_plays, Cond.instanceMethod yX8_plays, Cond.selects RX8 yX8_plays yX8_plays, Cond.code yX8_plays cX8_plays 2 none, Cond.methodLink RX8 105 yX8_comesTo, Cond.instanceMethod yX8_comesTo, Cond.selects RX8 yX8_comesTo yX8_comesTo, Cond.code yX8_comesTo cX8_comesTo 5 none, Cond.methodLink RX8 92 yX8_handFor, Cond.instanceMethod yX8_handFor, Cond.selects RX8 yX8_handFor yX8_handFor, Cond.code yX8_handFor cX8_handFor 6 (some .int), Cond.methodLink RX8 89 yX8_apart, Cond.static yX8_apart, Cond.code yX8_apart cX8_apart 2 (some .int), Cond.methodLink RX8 95 yX8_isThere, Cond.instanceMethod yX8_isThere, Cond.selects RX8 yX8_isThere yX8_isThere, Cond.code yX8_isThere cX8_isThere 4 (some .boolean), Cond.methodLink RL 53 yX7_type, Cond.instanceMethod yX7_type, Cond.selects RX7 yX7_type yX7_type, Cond.code yX7_type cX7_type 2 (some .int)]
def wsL_law_r24 : List Cond := [Cond.methodLink RX7 164 yX6_append, Cond.instanceMethod yX6_append, Cond.selects RX6 yX6_append yX6_append, Cond.code yX6_append cX6_append 2 none, Cond.methodLink RX6 24 yX4_put, Cond.methodLink RL 57 yX8_type, Cond.instanceMethod yX8_type, Cond.selects RX8 yX8_type yX8_type, Cond.code yX8_type cX8_type 2 (some .int), Cond.methodLink RL 58 yX7_clearText, Cond.instanceMethod yX7_clearText, Cond.selects RX7 yX7_clearText yX7_clearText, Cond.code yX7_clearText cX7_clearText 2 (some .int), Cond.methodLink RL 61 yX8_clearText, Cond.instanceMethod yX8_clearText, Cond.selects RX8 yX8_clearText yX8_clearText, Cond.code yX8_clearText cX8_clearText 2 (some .int), Cond.methodLink RL 62 yX7_undo, Cond.instanceMethod yX7_undo, Cond.selects RX7 yX7_undo yX7_undo, Cond.code yX7_undo cX7_undo 1 (some .int), Cond.methodLink RX7 169 yX2_moveLatestTo, Cond.instanceMethod yX2_moveLatestTo, Cond.selects RX2 yX2_moveLatestTo yX2_moveLatestTo]
def wsL_law_r25 : List Cond := [Cond.code yX2_moveLatestTo cX2_moveLatestTo 3 none, Cond.methodLink RL 65 yX8_undo, Cond.instanceMethod yX8_undo, Cond.selects RX8 yX8_undo yX8_undo, Cond.code yX8_undo cX8_undo 2 (some .int), Cond.methodLink RL 66 yX7_keep, Cond.instanceMethod yX7_keep, Cond.selects RX7 yX7_keep yX7_keep, Cond.code yX7_keep cX7_keep 1 (some .int), Cond.methodLink RX7 172 yX5_copyFrom, Cond.methodLink RL 69 yX8_keep, Cond.instanceMethod yX8_keep, Cond.selects RX8 yX8_keep yX8_keep, Cond.code yX8_keep cX8_keep 1 (some .int), Cond.fieldLink RX8 203 "LentSoundsModel" "isTaken" "I", Cond.methodLink RL 70 yX7_restore, Cond.instanceMethod yX7_restore, Cond.selects RX7 yX7_restore yX7_restore, Cond.code yX7_restore cX7_restore 1 (some .int), Cond.methodLink RL 73 yX8_restore, Cond.instanceMethod yX8_restore, Cond.selects RX8 yX8_restore yX8_restore, Cond.code yX8_restore cX8_restore 1 (some .int), Cond.methodLink RL 74 yX7_sound]
def wsL_law_r26 : List Cond := [Cond.instanceMethod yX7_sound, Cond.selects RX7 yX7_sound yX7_sound, Cond.code yX7_sound cX7_sound 3 (some .int), Cond.methodLink RX7 187 Lib.Math.max.name, Cond.methodLink RX7 180 yX0_sizeOfSound, Cond.instanceMethod yX0_sizeOfSound, Cond.selects RX0 yX0_sizeOfSound yX0_sizeOfSound, Cond.code yX0_sizeOfSound cX0_sizeOfSound 2 (some .int), Cond.methodLink RX7 183 yX3_playsOfSound, Cond.instanceMethod yX3_playsOfSound, Cond.selects RX3 yX3_playsOfSound yX3_playsOfSound, Cond.code yX3_playsOfSound cX3_playsOfSound 5 (some .int), Cond.methodLink RL 77 yX8_sound, Cond.instanceMethod yX8_sound, Cond.selects RX8 yX8_sound yX8_sound, Cond.code yX8_sound cX8_sound 3 (some .int), Cond.methodLink RX8 209 yX8_cuesOfSound, Cond.instanceMethod yX8_cuesOfSound, Cond.selects RX8 yX8_cuesOfSound yX8_cuesOfSound, Cond.code yX8_cuesOfSound cX8_cuesOfSound 5 (some .int), Cond.methodLink RX8 206 yX8_tries, Cond.instanceMethod yX8_tries, Cond.selects RX8 yX8_tries yX8_tries, Cond.code yX8_tries cX8_tries 2 none]
def wsL_law_r27 : List Cond := [Cond.methodLink RX8 213 yX8_lacks, Cond.instanceMethod yX8_lacks, Cond.selects RX8 yX8_lacks yX8_lacks, Cond.code yX8_lacks cX8_lacks 3 (some .int), Cond.methodLink RL 78 yX7_cue, Cond.instanceMethod yX7_cue, Cond.selects RX7 yX7_cue yX7_cue, Cond.code yX7_cue cX7_cue 3 (some .int), Cond.methodLink RL 81 yX8_cue, Cond.instanceMethod yX8_cue, Cond.selects RX8 yX8_cue yX8_cue, Cond.code yX8_cue cX8_cue 3 (some .int), Cond.methodLink RL 82 yX7_hand, Cond.instanceMethod yX7_hand, Cond.selects RX7 yX7_hand yX7_hand, Cond.code yX7_hand cX7_hand 3 (some .int), Cond.methodLink RL 85 yX8_hand, Cond.instanceMethod yX8_hand, Cond.selects RX8 yX8_hand yX8_hand, Cond.code yX8_hand cX8_hand 3 (some .int), Cond.methodLink RL 86 yX7_scene, Cond.instanceMethod yX7_scene, Cond.selects RX7 yX7_scene yX7_scene, Cond.code yX7_scene cX7_scene 3 (some .int)]
def wsL_law_r28 : List Cond := [Cond.methodLink RX7 223 yX0_firstTick, Cond.instanceMethod yX0_firstTick, Cond.selects RX0 yX0_firstTick yX0_firstTick, Cond.code yX0_firstTick cX0_firstTick 3 (some .int), Cond.methodLink RX7 226 yX0_greatestEnd, Cond.instanceMethod yX0_greatestEnd, Cond.selects RX0 yX0_greatestEnd yX0_greatestEnd, Cond.code yX0_greatestEnd cX0_greatestEnd 4 (some .int), Cond.methodLink RX0 77 Lib.Math.max.name, Cond.methodLink RX0 74 yX0_endOf, Cond.methodLink RL 89 yX8_scene, Cond.instanceMethod yX8_scene, Cond.selects RX8 yX8_scene yX8_scene, Cond.code yX8_scene cX8_scene 3 (some .int), Cond.methodLink RX8 216 yX8_firstTick, Cond.instanceMethod yX8_firstTick, Cond.selects RX8 yX8_firstTick yX8_firstTick, Cond.code yX8_firstTick cX8_firstTick 3 (some .int), Cond.methodLink RX8 219 yX8_greatestEnd, Cond.instanceMethod yX8_greatestEnd, Cond.selects RX8 yX8_greatestEnd yX8_greatestEnd, Cond.code yX8_greatestEnd cX8_greatestEnd 5 (some .int), Cond.methodLink RX8 222 yX8_missedOf, Cond.instanceMethod yX8_missedOf]
def wsL_law_r29 : List Cond := [Cond.selects RX8 yX8_missedOf yX8_missedOf, Cond.code yX8_missedOf cX8_missedOf 4 (some .int), Cond.methodLink RX8 225 yX8_lentTo, Cond.instanceMethod yX8_lentTo, Cond.selects RX8 yX8_lentTo yX8_lentTo, Cond.code yX8_lentTo cX8_lentTo 4 (some .int), Cond.methodLink RL 90 yX7_missed, Cond.instanceMethod yX7_missed, Cond.selects RX7 yX7_missed yX7_missed, Cond.code yX7_missed cX7_missed 2 (some .int), Cond.methodLink RX7 235 yX3_missedCue, Cond.instanceMethod yX3_missedCue, Cond.selects RX3 yX3_missedCue yX3_missedCue, Cond.code yX3_missedCue cX3_missedCue 5 (some .int), Cond.methodLink RL 93 yX8_missed, Cond.instanceMethod yX8_missed, Cond.selects RX8 yX8_missed yX8_missed, Cond.code yX8_missed cX8_missed 4 (some .int), Cond.methodLink RL 94 yX7_ifHands, Cond.instanceMethod yX7_ifHands, Cond.selects RX7 yX7_ifHands yX7_ifHands, Cond.code yX7_ifHands cX7_ifHands 2 (some .int), Cond.methodLink RL 97 yX8_ifHands, Cond.instanceMethod yX8_ifHands]
def wsL_law_r30 : List Cond := [Cond.selects RX8 yX8_ifHands yX8_ifHands, Cond.code yX8_ifHands cX8_ifHands 2 (some .int), Cond.methodLink RL 98 yX7_cleanTakes, Cond.instanceMethod yX7_cleanTakes, Cond.selects RX7 yX7_cleanTakes yX7_cleanTakes, Cond.code yX7_cleanTakes cX7_cleanTakes 2 (some .int), Cond.methodLink RL 101 yX8_cleanTakes, Cond.instanceMethod yX8_cleanTakes, Cond.selects RX8 yX8_cleanTakes yX8_cleanTakes, Cond.code yX8_cleanTakes cX8_cleanTakes 3 (some .int), Cond.methodLink RL 102 yX7_count, Cond.instanceMethod yX7_count, Cond.selects RX7 yX7_count yX7_count, Cond.code yX7_count cX7_count 2 (some .int), Cond.methodLink RX7 245 yX4_sum, Cond.instanceMethod yX4_sum, Cond.selects RX4 yX4_sum yX4_sum, Cond.code yX4_sum cX4_sum 3 (some .int), Cond.methodLink RL 105 yX8_count, Cond.instanceMethod yX8_count, Cond.selects RX8 yX8_count yX8_count, Cond.code yX8_count cX8_count 2 (some .int), Cond.methodLink RX8 228 yX8_wouldMiss, Cond.instanceMethod yX8_wouldMiss]
def wsL_law_r31 : List Cond := [Cond.selects RX8 yX8_wouldMiss yX8_wouldMiss, Cond.code yX8_wouldMiss cX8_wouldMiss 2 (some .int), Cond.methodLink RX8 232 yX8_allCharges, Cond.instanceMethod yX8_allCharges, Cond.selects RX8 yX8_allCharges yX8_allCharges, Cond.code yX8_allCharges cX8_allCharges 3 (some .int)]
def wsL_law : List Cond := (wsL_law_r1 ++ (wsL_law_r2 ++ (wsL_law_r3 ++ (wsL_law_r4 ++ (wsL_law_r5 ++ (wsL_law_r6 ++ (wsL_law_r7 ++ (wsL_law_r8 ++ (wsL_law_r9 ++ (wsL_law_r10 ++ (wsL_law_r11 ++ (wsL_law_r12 ++ (wsL_law_r13 ++ (wsL_law_r14 ++ (wsL_law_r15 ++ (wsL_law_r16 ++ (wsL_law_r17 ++ (wsL_law_r18 ++ (wsL_law_r19 ++ (wsL_law_r20 ++ (wsL_law_r21 ++ (wsL_law_r22 ++ (wsL_law_r23 ++ (wsL_law_r24 ++ (wsL_law_r25 ++ (wsL_law_r26 ++ (wsL_law_r27 ++ (wsL_law_r28 ++ (wsL_law_r29 ++ (wsL_law_r30 ++ wsL_law_r31)))))))))))))))))))))))))))))) ++ wsX70 ++ wsX80 ++ wsX50 ++ wsX20 ++ wsX60 ++ wsX10 ++ wsX30 ++ wsX40 ++ wsX00 ++ ([] : List Cond)
abbrev vwCl : List vw_C := [(RX0, TX0, 6), (RX1, TX1, 4), (RX2, TX2, 2), (RX3, TX3, 15), (RX4, TX4, 1), (RX5, TX5, 11), (RX6, TX6, 2), (RX7, TX7, 7), (RX8, TX8, 25)]
end
section
/-! THE PURE MEMORY: numbers by an id (of an object or an array) and a slot; shapes of the classes; the world that holds a memory -/
abbrev Mm : Type := Nat → Int → Int
abbrev GG : Type := List (Nat × Nat)
abbrev EE : Type := va_G × ClassId × ClassId
abbrev cI (x : Int) : Value := .int (Int32.ofInt x)
abbrev cL (x : Int) : Value := .long (Int64.ofInt x)
def inR (x : Int) : Prop := -2147483648 ≤ x ∧ x ≤ 2147483647
def inL (x : Int) : Prop := -9223372036854775808 ≤ x ∧ x ≤ 9223372036854775807
def mu (M : Mm) (o : Nat) (k v : Int) : Mm := fun o' => if o' = o then (fun k' => if k' = k then v else M o k') else M o'
def mcp (M : Mm) (a b : Nat) (n : Int) : Mm := fun o => if o = b then (fun k => if 0 ≤ k ∧ k < n then M a k else M b k) else M o
theorem mu_ne {M : Mm} {o o' : Nat} {k v : Int} (h : o' ≠ o) : mu M o k v o' = M o' := if_neg h
theorem mu_eq {M : Mm} {o : Nat} {k v : Int} : mu M o k v o = fun k' => if k' = k then v else M o k' := if_pos rfl
theorem mcp_ne {M : Mm} {a b o' : Nat} {n : Int} (h : o' ≠ b) : mcp M a b n o' = M o' := if_neg h
theorem mcp_eq {M : Mm} {a b : Nat} {n : Int} : mcp M a b n b = fun k => if 0 ≤ k ∧ k < n then M a k else M b k := if_pos rfl
def gk (g : GG) (o : Nat) : Nat := (g.getD o (99, 0)).1
def gl (g : GG) (o : Nat) : Nat := (g.getD o (99, 0)).2
theorem gk_lt {g : GG} {o : Nat} (h : gk g o < 99) : o < g.length := by
  by_cases hl : o < g.length
  · exact hl
  · have h2 : gk g o = 99 := by simp [gk, List.getD, List.getElem?_eq_none (Nat.le_of_not_lt hl)]
    omega
/-- the fields of each class: an int, or a reference to the object so many ids further on -/
def sh : Nat → List (Option Nat)
  | 0 => [none, some 1, some 3, some 5, some 7, none]
  | 1 => [some 1, none, none, none]
  | 2 => [some 1, none]
  | 3 => [some 1, some 3, some 5, some 7, some 9, some 11, some 13, some 15, some 17, some 19, some 21, some 23, none, none, none]
  | 4 => [some 1]
  | 5 => [some 1, some 3, some 5, some 7, some 9, none, none, none, none, none, none]
  | 6 => [some 1, none]
  | 7 => [some 1, some 19, some 37, some 111, some 114, some 124, none]
  | 8 => [some 1, some 2, some 3, some 4, none, some 5, none, some 6, some 7, some 8, some 9, some 10, some 11, some 12, some 13, some 14, none, none, some 15, some 16, none, none, none, some 17, none]
  | _ => []
/-- of which class they are -/
def sk : Nat → List Nat
  | 0 => [99, 4, 4, 4, 4, 99]
  | 1 => [0, 99, 99, 99]
  | 2 => [10, 99]
  | 3 => [4, 4, 4, 4, 4, 4, 4, 4, 4, 4, 4, 4, 99, 99, 99]
  | 4 => [9]
  | 5 => [4, 4, 4, 4, 0, 99, 99, 99, 99, 99, 99]
  | 6 => [4, 99]
  | 7 => [5, 5, 2, 6, 1, 3, 99]
  | 8 => [9, 9, 9, 9, 99, 9, 99, 9, 9, 9, 9, 9, 9, 9, 9, 9, 99, 99, 9, 9, 99, 99, 99, 9, 99]
  | _ => []
/-- the shape of a world is sound: each reference of each object leads to an object of its class; rows are short -/
def gwf (g : GG) : Prop := (∀ o, o < g.length → ∀ k, k < 25 → ∀ d, (sh (gk g o))[k]? = some (some d) → gk g (o + d) = (sk (gk g o)).getD k 99) ∧ ∀ o, gl g o ≤ 1000
theorem gch {g : GG} (hg : gwf g) {o ci : Nat} (ho : gk g o = ci) (hc : ci < 99) (k : Nat) (hk : k < 25) {d : Nat} (hs : (sh ci)[k]? = some (some d)) {cj : Nat} (hj : (sk ci).getD k 99 = cj) : gk g (o + d) = cj := by
  subst ho
  rw [← hj]
  exact hg.1 o (gk_lt hc) k hk d hs
def fv (ad : Nat → Nat) (r : Int → Int) (o : Nat) : Nat → List (Option Nat) → List Value
  | _, [] => []
  | k, none :: l => cI (r k) :: fv ad r o (k + 1) l
  | k, some d :: l => .ref (ad (o + d)) :: fv ad r o (k + 1) l
def ce (E : EE) (g : GG) (ad : Nat → Nat) (o : Nat) (r : Int → Int) : va_E :=
  if gk g o = 9 then .inl (E.2.1, gl g o, .inl (fun j : Nat => Int32.ofInt (r j)))
  else if gk g o = 10 then .inl (E.2.2, gl g o, .inr (.inr (.inr (.inr (fun j : Nat => some (ad (r j).toNat))))))
  else .inr (gk g o, fv ad r o 0 (sh (gk g o)))
def wd (E : EE) (g : GG) (ad : Nat → Nat) (M : Mm) : va_W := (List.range g.length).map fun o => (ad o, ce E g ad o (M o))
theorem wd_len {E : EE} {g : GG} {ad : Nat → Nat} {M : Mm} : (wd E g ad M).length = g.length := by simp [wd]
theorem wd_get {E : EE} {g : GG} {ad : Nat → Nat} {M : Mm} {o : Nat} (ho : o < g.length) : (wd E g ad M)[o]? = some (ad o, ce E g ad o (M o)) := by
  simp [wd, ho]
theorem wd_inv {E : EE} {g : GG} {ad : Nat → Nat} {M : Mm} {k : Nat} {q : Nat × va_E} (h : (wd E g ad M)[k]? = some q) : k < g.length ∧ q = (ad k, ce E g ad k (M k)) := by
  have hk : k < g.length := by
    have := (List.getElem?_eq_some_iff.mp h).1
    rwa [wd_len] at this
  rw [wd_get hk] at h
  exact ⟨hk, (Option.some.inj h).symm⟩
theorem wd_set {E : EE} {g : GG} {ad : Nat → Nat} {M M' : Mm} {o : Nat} {e : va_E} (ho : o < g.length) (hne : ∀ o', o' ≠ o → M' o' = M o') (he : ce E g ad o (M' o) = e) : (wd E g ad M).set o (ad o, e) = wd E g ad M' := by
  apply List.ext_getElem?
  intro i
  by_cases hi : i < g.length
  · by_cases hio : i = o
    · subst hio
      rw [List.getElem?_set_self (by rw [wd_len]; exact ho), wd_get ho, he]
    · rw [List.getElem?_set_ne (Ne.symm hio), wd_get hi, wd_get hi, hne i hio]
  · rw [List.getElem?_eq_none (by rw [List.length_set, wd_len]; omega), List.getElem?_eq_none (by rw [wd_len]; omega)]
theorem fv_get_i {ad : Nat → Nat} {r : Int → Int} {o : Nat} : ∀ (l : List (Option Nat)) (j k : Nat), l[k]? = some none → (fv ad r o j l)[k]? = some (cI (r (j + k : Nat)))
  | [], j, k, h => by simp at h
  | none :: l, j, 0, h => by simp [fv]
  | some d :: l, j, 0, h => by simp at h
  | none :: l, j, k + 1, h => by
    have h2 := fv_get_i (ad := ad) (r := r) (o := o) l (j + 1) k (by simpa using h)
    simp only [fv, List.getElem?_cons_succ, h2]
    rw [Nat.add_assoc, Nat.add_comm 1 k]
  | some d :: l, j, k + 1, h => by
    have h2 := fv_get_i (ad := ad) (r := r) (o := o) l (j + 1) k (by simpa using h)
    simp only [fv, List.getElem?_cons_succ, h2]
    rw [Nat.add_assoc, Nat.add_comm 1 k]
theorem fv_get_r {ad : Nat → Nat} {r : Int → Int} {o : Nat} : ∀ (l : List (Option Nat)) (j k d : Nat), l[k]? = some (some d) → (fv ad r o j l)[k]? = some (.ref (ad (o + d)))
  | [], j, k, d, h => by simp at h
  | none :: l, j, 0, d, h => by simp at h
  | some d' :: l, j, 0, d, h => by
    simp at h
    simp [fv, h]
  | none :: l, j, k + 1, d, h => by
    have h2 := fv_get_r (ad := ad) (r := r) (o := o) l (j + 1) k d (by simpa using h)
    simp only [fv, List.getElem?_cons_succ, h2]
  | some d' :: l, j, k + 1, d, h => by
    have h2 := fv_get_r (ad := ad) (r := r) (o := o) l (j + 1) k d (by simpa using h)
    simp only [fv, List.getElem?_cons_succ, h2]
theorem fv_same {ad : Nat → Nat} {r r' : Int → Int} {o : Nat} : ∀ (l : List (Option Nat)) (j : Nat), (∀ k : Nat, j ≤ k → r' k = r k) → fv ad r' o j l = fv ad r o j l
  | [], j, h => rfl
  | none :: l, j, h => by simp only [fv]; rw [h j (Nat.le_refl j), fv_same l (j + 1) (fun k hk => h k (by omega))]
  | some d :: l, j, h => by simp only [fv]; rw [fv_same l (j + 1) (fun k hk => h k (by omega))]
theorem fv_set {ad : Nat → Nat} {r : Int → Int} {o : Nat} {v : Int} : ∀ (l : List (Option Nat)) (j k : Nat), l[k]? = some none → (fv ad r o j l).set k (cI v) = fv ad (fun i => if i = ((j + k : Nat) : Int) then v else r i) o j l
  | [], j, k, h => by simp at h
  | none :: l, j, 0, h => by
    simp only [fv, List.set_cons_zero, Nat.add_zero, if_true]
    rw [fv_same (r' := fun i => if i = (j : Int) then v else r i) (r := r) l (j + 1) (fun k hk => if_neg (by omega))]
  | some d :: l, j, 0, h => by simp at h
  | none :: l, j, k + 1, h => by
    have h2 := fv_set (ad := ad) (r := r) (o := o) (v := v) l (j + 1) k (by simpa using h)
    simp only [fv, List.set_cons_succ, h2]
    rw [if_neg (by omega), Nat.add_assoc, Nat.add_comm 1 k]
  | some d :: l, j, k + 1, h => by
    have h2 := fv_set (ad := ad) (r := r) (o := o) (v := v) l (j + 1) k (by simpa using h)
    simp only [fv, List.set_cons_succ, h2]
    rw [Nat.add_assoc, Nat.add_comm 1 k]
theorem fv_len {ad : Nat → Nat} {r : Int → Int} {o : Nat} : ∀ (l : List (Option Nat)) (j : Nat), (fv ad r o j l).length = l.length
  | [], j => rfl
  | none :: l, j => by simp only [fv, List.length_cons, fv_len l (j + 1)]
  | some d :: l, j => by simp only [fv, List.length_cons, fv_len l (j + 1)]
theorem ce_obj {E : EE} {g : GG} {ad : Nat → Nat} {o ci : Nat} {r : Int → Int} (h : gk g o = ci) (hc : ci < 9) : ce E g ad o r = .inr (ci, fv ad r o 0 (sh ci)) := by
  subst h
  rw [ce, if_neg (by omega), if_neg (by omega)]
theorem ce_arr {E : EE} {g : GG} {ad : Nat → Nat} {o : Nat} {r : Int → Int} (h : gk g o = 9) : ce E g ad o r = .inl (E.2.1, gl g o, .inl (fun j : Nat => Int32.ofInt (r j))) := by
  rw [ce, if_pos h]
theorem ce_rar {E : EE} {g : GG} {ad : Nat → Nat} {o : Nat} {r : Int → Int} (h : gk g o = 10) : ce E g ad o r = .inl (E.2.2, gl g o, .inr (.inr (.inr (.inr (fun j : Nat => some (ad (r j).toNat)))))) := by
  rw [ce, if_neg (by omega), if_pos h]
/-! numbers -/
theorem inR_ofInt {x : Int} (h : inR x) : (Int32.ofInt x).toInt = x := by
  obtain ⟨h1, h2⟩ := h
  rw [Int32.toInt_ofInt]
  have hz : Int32.size = 4294967296 := rfl
  exact Int.bmod_eq_of_le (by rw [hz]; omega) (by rw [hz]; omega)
theorem inL_ofInt {x : Int} (h : inL x) : (Int64.ofInt x).toInt = x := by
  obtain ⟨h1, h2⟩ := h
  rw [Int64.toInt_ofInt]
  have hz : Int64.size = 18446744073709551616 := rfl
  exact Int.bmod_eq_of_le (by rw [hz]; omega) (by rw [hz]; omega)
theorem inR_toInt (x : Int32) : inR x.toInt := by
  have h1 := x.le_toInt
  have h2 := x.toInt_lt
  exact ⟨by omega, by omega⟩
theorem cI_lt {x y : Int} (hx : inR x) (hy : inR y) : Int32.ofInt x < Int32.ofInt y ↔ x < y := by
  rw [Int32.lt_iff_toInt_lt, inR_ofInt hx, inR_ofInt hy]
theorem cI_le {x y : Int} (hx : inR x) (hy : inR y) : Int32.ofInt x ≤ Int32.ofInt y ↔ x ≤ y := by
  rw [Int32.le_iff_toInt_le, inR_ofInt hx, inR_ofInt hy]
theorem cI_eq {x y : Int} (hx : inR x) (hy : inR y) : Int32.ofInt x = Int32.ofInt y ↔ x = y := by
  constructor
  · intro h
    have h2 := congrArg Int32.toInt h
    rwa [inR_ofInt hx, inR_ofInt hy] at h2
  · intro h; rw [h]
theorem inR_0 : inR 0 := ⟨by decide, by decide⟩
theorem inR_n {n : Nat} (h : n ≤ 1000) : inR (n : Int) := ⟨by omega, by omega⟩
theorem cI_cl {x : Int} (h0 : 0 ≤ x) (h1 : x ≤ 2147483647) : (Int32.ofInt x).toNatClampNeg = x.toNat := by
  show (Int32.ofInt x).toInt.toNat = x.toNat
  rw [inR_ofInt ⟨by omega, h1⟩]
theorem cI_in {x : Int} {n : Nat} (h0 : 0 ≤ x) (h1 : x < n) (hn : n ≤ 1000) : vp_in (Int32.ofInt x) n := by
  rw [vp_in_iff, inR_ofInt ⟨by omega, by omega⟩]
  exact ⟨h0, h1⟩
theorem cI_i2l {x : Int} (h : inR x) : (Int32.ofInt x).toInt64 = Int64.ofInt x := by
  have h1 : inL x := ⟨by have := h.1; omega, by have := h.2; omega⟩
  apply Int64.toInt_inj.mp
  rw [Int32.toInt_toInt64, inR_ofInt h, inL_ofInt h1]
end
section
/-! THE ROWS over the pure memory -/
def tyE (E : EE) : List (ClassId × FieldType) := [(E.2.1, .int), (E.2.2, .object RX5)]
/-- the links to private members of nest mates -/
def nsF : List Cond := [.fieldLinkNest "LentSounds$Rehearsal" 102 "LentSounds$CueList" "ticks" "LLentSounds$Row;" "LentSounds", .fieldLinkNest "LentSounds" 196 "LentSounds$CueList" "ticks" "LLentSounds$Row;" "LentSounds", .fieldLinkNest "LentSounds$Rehearsal" 120 "LentSounds$CueList" "scenes" "LLentSounds$Row;" "LentSounds", .fieldLinkNest "LentSounds" 193 "LentSounds$CueList" "scenes" "LLentSounds$Row;" "LentSounds", .fieldLinkNest "LentSounds$Rehearsal" 96 "LentSounds$CueList" "sounds" "LLentSounds$Row;" "LentSounds", .fieldLinkNest "LentSounds" 199 "LentSounds$CueList" "sounds" "LLentSounds$Row;" "LentSounds", .fieldLinkNest "LentSounds" 202 "LentSounds$CueList" "lengths" "LLentSounds$Row;" "LentSounds", .fieldLinkNest "LentSounds$Rehearsal" 87 "LentSounds$CueList" "size" "I" "LentSounds", .fieldLinkNest "LentSounds" 111 "LentSounds$CueList" "size" "I" "LentSounds", .fieldLinkNest "LentSounds$Rehearsal" 99 "LentSounds$State" "soundShelves" "LLentSounds$Row;" "LentSounds", .fieldLinkNest "LentSounds" 174 "LentSounds$State" "soundShelves" "LLentSounds$Row;" "LentSounds", .fieldLinkNest "LentSounds$Rehearsal" 63 "LentSounds$State" "charges" "LLentSounds$Row;" "LentSounds", .fieldLinkNest "LentSounds" 139 "LentSounds$State" "charges" "LLentSounds$Row;" "LentSounds", .fieldLinkNest "LentSounds$Rehearsal" 144 "LentSounds$State" "loudness" "LLentSounds$Row;" "LentSounds", .fieldLinkNest "LentSounds" 177 "LentSounds$State" "loudness" "LLentSounds$Row;" "LentSounds", .fieldLinkNest "LentSounds$Rehearsal" 71 "LentSounds$State" "handShelves" "LLentSounds$Row;" "LentSounds", .fieldLinkNest "LentSounds" 84 "LentSounds$State" "handShelves" "LLentSounds$Row;" "LentSounds", .fieldLinkNest "LentSounds$Rehearsal" 83 "LentSounds$State" "cues" "LLentSounds$CueList;" "LentSounds", .fieldLinkNest "LentSounds" 91 "LentSounds$State" "cues" "LLentSounds$CueList;" "LentSounds", .fieldLinkNest "LentSounds$Rehearsal" 70 "LentSounds$State" "hands" "I" "LentSounds", .fieldLinkNest "LentSounds" 80 "LentSounds$State" "hands" "I" "LentSounds", .fieldLinkNest "LentSounds" 88 "LentSounds$State" "carrying" "I" "LentSounds", .fieldLinkNest "LentSounds$Rehearsal" 127 "LentSounds$State" "carrying" "I" "LentSounds", .fieldLinkNest "LentSounds" 147 "LentSounds$State" "takes" "I" "LentSounds", .fieldLinkNest "LentSounds" 150 "LentSounds$State" "playedCues" "I" "LentSounds", .fieldLinkNest "LentSounds" 156 "LentSounds$State" "missedCues" "I" "LentSounds", .fieldLinkNest "LentSounds" 157 "LentSounds$State" "missedByEar" "I" "LentSounds", .fieldLinkNest "LentSounds" 168 "LentSounds$History" "size" "I" "LentSounds", .fieldLinkNest "LentSounds$CueReader" 39 "LentSounds$Text" "length" "I" "LentSounds", .fieldLinkNest "LentSounds" 161 "LentSounds$Text" "length" "I" "LentSounds", .fieldLinkNest "LentSounds" 108 "LentSounds$CueReader" "drafts" "LLentSounds$CueList;" "LentSounds", .fieldLinkNest "LentSounds" 102 "LentSounds$CueReader" "position" "I" "LentSounds", .fieldLinkNest "LentSounds" 99 "LentSounds$CueReader" "faulty" "Z" "LentSounds", .fieldLinkNest "LentSounds" 105 "LentSounds$CueReader" "foundTwice" "Z" "LentSounds", .fieldLinkNest "LentSounds" 142 "LentSounds$Rehearsal" "charges" "LLentSounds$Row;" "LentSounds", .fieldLinkNest "LentSounds" 146 "LentSounds$Rehearsal" "handShelves" "LLentSounds$Row;" "LentSounds", .fieldLinkNest "LentSounds" 220 "LentSounds$Rehearsal" "freeFrom" "LLentSounds$Row;" "LentSounds", .fieldLinkNest "LentSounds" 214 "LentSounds$Rehearsal" "handPlays" "LLentSounds$Row;" "LentSounds", .fieldLinkNest "LentSounds" 217 "LentSounds$Rehearsal" "handWays" "LLentSounds$Row;" "LentSounds", .fieldLinkNest "LentSounds" 205 "LentSounds$Rehearsal" "players" "LLentSounds$Row;" "LentSounds", .fieldLinkNest "LentSounds" 208 "LentSounds$Rehearsal" "reasons" "LLentSounds$Row;" "LentSounds", .fieldLinkNest "LentSounds" 211 "LentSounds$Rehearsal" "ways" "LLentSounds$Row;" "LentSounds", .fieldLinkNest "LentSounds" 229 "LentSounds$Rehearsal" "sceneMisses" "LLentSounds$Row;" "LentSounds", .fieldLinkNest "LentSounds" 232 "LentSounds$Rehearsal" "sceneLoans" "LLentSounds$Row;" "LentSounds", .fieldLinkNest "LentSounds" 153 "LentSounds$Rehearsal" "missedCues" "I" "LentSounds", .fieldLinkNest "LentSounds" 160 "LentSounds$Rehearsal" "missedByEar" "I" "LentSounds"]
def nsM : List Cond := [.methodLinkNest "LentSounds" 28 ⟨"LentSounds$Text", "<init>", "()V"⟩ "LentSounds", .methodLinkNest "LentSounds" 35 ⟨"LentSounds$CueReader", "<init>", "()V"⟩ "LentSounds", .methodLinkNest "LentSounds" 42 ⟨"LentSounds$Rehearsal", "<init>", "()V"⟩ "LentSounds", .methodLinkNest "LentSounds$Text" 28 ⟨"LentSounds", "isBelow", "(II)Z"⟩ "LentSounds", .methodLinkNest "LentSounds$CueReader" 74 ⟨"LentSounds", "isWithin", "(III)Z"⟩ "LentSounds", .methodLinkNest "LentSounds$CueList" 60 ⟨"LentSounds", "isWithin", "(III)Z"⟩ "LentSounds"]
def Kn (E : EE) (U : State) : Prop := va_K E.1 vwCl (tyE E) U ∧ (∀ w ∈ nsF, va_Nw w U) ∧ ∀ w ∈ nsM, va_Nw w U
def isF (w : Cond) : Prop := ∃ a i b n d h, w = .fieldLinkNest a i b n d h
def isM (w : Cond) : Prop := ∃ a i x h, w = .methodLinkNest a i x h
theorem isF_ok : ∀ w ∈ nsF, isF w := by
  intro w hw
  simp only [nsF, List.mem_cons, List.not_mem_nil, or_false] at hw
  rcases hw with rfl | rfl | rfl | rfl | rfl | rfl | rfl | rfl | rfl | rfl | rfl | rfl | rfl | rfl | rfl | rfl | rfl | rfl | rfl | rfl | rfl | rfl | rfl | rfl | rfl | rfl | rfl | rfl | rfl | rfl | rfl | rfl | rfl | rfl | rfl | rfl | rfl | rfl | rfl | rfl | rfl | rfl | rfl | rfl | rfl | rfl
  all_goals exact ⟨_, _, _, _, _, _, rfl⟩
theorem isM_ok : ∀ w ∈ nsM, isM w := by
  intro w hw
  simp only [nsM, List.mem_cons, List.not_mem_nil, or_false] at hw
  rcases hw with rfl | rfl | rfl | rfl | rfl | rfl
  all_goals exact ⟨_, _, _, _, rfl⟩
theorem Kn.warm {E : EE} {s U : State} (hW : s.WarmedH U.vm) (h : Kn E s) : Kn E U := by
  refine ⟨va_K.moved hW.alike h.1, fun w hw => ?_, fun w hw => ?_⟩
  · obtain ⟨a, i, b, n, d, hh, rfl⟩ := isF_ok w hw
    exact va_Nw.warmF hW (h.2.1 _ hw)
  · obtain ⟨a, i, x, hh, rfl⟩ := isM_ok w hw
    exact va_Nw.warmM hW (h.2.2 _ hw)
theorem Kn.calling {E : EE} {U : State} {g : JFrame} {mk : MethodId} {a : Array Value} (h : Kn E U) : Kn E (U.calling g mk a) := by
  refine ⟨va_K.moved (u := U) (U := U.calling g mk a) (Vm.Alike.refl U.vm) h.1, fun w hw => ?_, fun w hw => ?_⟩
  · obtain ⟨a, i, b, n, d, hh, rfl⟩ := isF_ok w hw
    exact va_Nw.same rfl rfl (h.2.1 _ hw)
  · obtain ⟨a, i, x, hh, rfl⟩ := isM_ok w hw
    exact va_Nw.same rfl rfl (h.2.2 _ hw)
/-- the cells of a world -/
def Rg (g : GG) (ad : Nat → Nat) : Nat → Prop := fun q => ∃ o, o < g.length ∧ ad o = q
def Rp (E : EE) (g : GG) (ad : Nat → Nat) (M : Mm) (U : State) : Prop := va_P E.1 vwCl (wd E g ad M) U.heap ∧ va_D (fun _ => True) (wd E g ad M) ∧ Kn E U
def Rw (E : EE) (g : GG) (ad : Nat → Nat) (M : Mm) (H0 H : Heap) (locs : List Loc) : Prop := va_P E.1 vwCl (wd E g ad M) H ∧ va_D (Rg g ad) (wd E g ad M) ∧ va_S (Rg g ad) H0 H locs
theorem wd_D {E : EE} {g : GG} {ad : Nat → Nat} {M : Mm} {A : Nat → Prop} (h : va_D A (wd E g ad M)) : va_D (Rg g ad) (wd E g ad M) := by
  refine ⟨h.1, fun k q hk => ?_⟩
  obtain ⟨h1, h2⟩ := wd_inv hk
  exact ⟨k, h1, by rw [h2]⟩
theorem wd_DT {E : EE} {g : GG} {ad : Nat → Nat} {M M' : Mm} {A : Nat → Prop} (h : va_D A (wd E g ad M)) : va_D (fun _ => True) (wd E g ad M') := by
  refine ⟨fun i j p q hi hj he => ?_, fun _ _ _ => trivial⟩
  obtain ⟨h1, h2⟩ := wd_inv hi
  obtain ⟨h3, h4⟩ := wd_inv hj
  exact h.1 i j _ _ (wd_get h1) (wd_get h3) (by rw [h2, h4] at he; exact he)
theorem Rp.w {E : EE} {g : GG} {ad : Nat → Nat} {M : Mm} {U : State} (h : Rp E g ad M U) : Rw E g ad M U.heap U.heap [] := ⟨h.1, wd_D h.2.1, va_S.rf⟩
theorem Rw.p {E : EE} {g : GG} {ad : Nat → Nat} {M : Mm} {H0 H : Heap} {locs : List Loc} {U : State} (h : Rw E g ad M H0 H locs) (hH : U.heap = H) (hK : Kn E U) : Rp E g ad M U := ⟨by rw [hH]; exact h.1, wd_DT h.2.1, hK⟩
/-! contracts -/
abbrev QI (E : EE) (g : GG) (ad : Nat → Nat) (Q : Int → Mm → Prop) : Array Value → State → Outcome → State → Prop := va_Qi (fun (r : Int32) (u : Int × Mm) => r = Int32.ofInt u.1 ∧ Q u.1 u.2) (fun u t => Rp E g ad u.2 t) (Rg g ad)
abbrev QV (E : EE) (g : GG) (ad : Nat → Nat) (Q : Mm → Prop) : Array Value → State → Outcome → State → Prop := va_Qv (fun (u : Mm) => Q u) (fun u t => Rp E g ad u t) (Rg g ad)
abbrev QR (E : EE) (g : GG) (ad : Nat → Nat) (ck : Nat) (Q : Nat → Mm → Prop) : Array Value → State → Outcome → State → Prop := va_Qr (fun (u : Nat × Mm) => Q u.1 u.2 ∧ gk g u.1 = ck) (fun u a t => a = ad u.1 ∧ Rp E g ad u.2 t) (Rg g ad)
abbrev QO (E : EE) (g : GG) (ad : Nat → Nat) (ck : Nat) (Q : Option Nat → Mm → Prop) : Array Value → State → Outcome → State → Prop := va_Qq (fun (r : Option Nat) (u : Option Nat × Mm) => r = u.1.map ad ∧ Q u.1 u.2 ∧ ∀ x, u.1 = some x → gk g x = ck) (fun u t => Rp E g ad u.2 t) (Rg g ad)
def Ct (E : EE) (l : Launch) (y : MethodName) (ws : List Cond) (rm : Room) (g : GG) (ad : Nat → Nat) (args : List Value) (M : Mm) (Qc : Array Value → State → Outcome → State → Prop) : Prop := Met l y ws rm (va_Pc args (fun U => Rp E g ad M U)) Qc 0 0 (Rg g ad)
set_option maxHeartbeats 4000000 in
/-- a method's body, from its entry -/
theorem ent {E : EE} {l : Launch} {y : MethodName} {ws ws' : List Cond} {rm : Room} {g : GG} {ad : Nat → Nat} {av : List Value} {M : Mm} {Qc : Array Value → State → Outcome → State → Prop} {cc : ByteArray} {maxL : Nat} {ret : Option FieldType} {own : String}
    (hy : plainName y.cls = true) (ho : y.cls = own) (hw : ws = Cond.code y cc maxL ret :: ws') (hlen : (lg_sl av).length ≤ maxL)
    (body : ∀ (p : Program) (e : Env) (s : State) (m : MethodId) (below : List Frame) (meth : Method) (c : Code) (ls : Array Slot), CallFix p m c cc maxL s av.toArray ws own → meth.sig.returnType = ret → meth.locks = false → Kn E s → Rw E g ad M s.heap s.heap [] → lv_has ls maxL (lv_args 0 av) →
      W p l e (headSpec ws rm).room s m av.toArray below meth c s.heap [] 0 0 (MQ below Qc av.toArray s 0 0 (Rg g ad)) (F0 m 0 ls [])) : Ct E l y ws rm g ad av M Qc := by
  subst ho
  refine Met.ofW (cc := cc) (maxL := maxL) (ret := ret) hy hw ?_
  intro p e s m args below meth c s₁ B hml hv
  obtain ⟨rfl, hv⟩ := hv
  have hl := lv_entry av (n := maxL) hlen
  rw [lg_entry_eq]
  generalize (lg_sl av ++ List.replicate (maxL - (lg_sl av).length) Slot.unset).toArray = ls at hl ⊢
  exact body p e s m below meth c ls ⟨B.exec, B.bytes, hml, findClass_of_methodNamed B.named, atoms_spec (ws := ws) B.pre⟩ B.returns B.notSynchronized hv.2.2 hv.w hl
section ROWS
variable {p : Program} {l : Launch} {e : Env} {R : Room} {s : State} {m : MethodId} {args : Array Value} {below : List Frame} {meth : Method} {c : Code} {H H0 : Heap} {locs : List Loc} {cells slots : Nat} {Q : State → Prop}
variable {E : EE} {g : GG} {ad : Nat → Nat} {M : Mm} {cc : ByteArray} {nL : Nat} {Ts : List Cond} {own : String} {pc : Nat} {ls : Array Slot} {rest : List Value}
theorem r_bipush (X : CallFix p m c cc nL s args Ts own) {n : Int} (hdg : decode cc pc = .ok (.bipush n, 2)) (hv : (Int8.ofInt n).toInt32 = Int32.ofInt n)
    (k : W p l e R s m args below meth c H locs cells slots Q (F0 m (pc + 2) ls (cI n :: rest))) : W p l e R s m args below meth c H locs cells slots Q (F0 m pc ls rest) := lv_bipush X.1 X.2.1 hdg hv k
theorem r_sipush (X : CallFix p m c cc nL s args Ts own) {n : Int} (hdg : decode cc pc = .ok (.sipush n, 3)) (hv : (Int16.ofInt n).toInt32 = Int32.ofInt n)
    (k : W p l e R s m args below meth c H locs cells slots Q (F0 m (pc + 3) ls (cI n :: rest))) : W p l e R s m args below meth c H locs cells slots Q (F0 m pc ls rest) := lv_sipush X.1 X.2.1 hdg hv k
theorem r_iconst (X : CallFix p m c cc nL s args Ts own) {n : Int} (hdg : decode cc pc = .ok (.iconst n, 1))
    (k : W p l e R s m args below meth c H locs cells slots Q (F0 m (pc + 1) ls (cI n :: rest))) : W p l e R s m args below meth c H locs cells slots Q (F0 m pc ls rest) := lv_iconst X.1 X.2.1 hdg rfl k
theorem r_iadd (X : CallFix p m c cc nL s args Ts own) {a b : Int} (hdg : decode cc pc = .ok (.iadd, 1))
    (k : W p l e R s m args below meth c H locs cells slots Q (F0 m (pc + 1) ls (cI (a + b) :: rest))) : W p l e R s m args below meth c H locs cells slots Q (F0 m pc ls (cI b :: cI a :: rest)) := lv_iadd X.1 X.2.1 hdg (by rw [← Int32.ofInt_add]; exact k)
theorem r_isub (X : CallFix p m c cc nL s args Ts own) {a b : Int} (hdg : decode cc pc = .ok (.isub, 1))
    (k : W p l e R s m args below meth c H locs cells slots Q (F0 m (pc + 1) ls (cI (a - b) :: rest))) : W p l e R s m args below meth c H locs cells slots Q (F0 m pc ls (cI b :: cI a :: rest)) := lv_isub X.1 X.2.1 hdg (by rw [← Int32.ofInt_sub]; exact k)
theorem r_imul (X : CallFix p m c cc nL s args Ts own) {a b : Int} (hdg : decode cc pc = .ok (.imul, 1))
    (k : W p l e R s m args below meth c H locs cells slots Q (F0 m (pc + 1) ls (cI (a * b) :: rest))) : W p l e R s m args below meth c H locs cells slots Q (F0 m pc ls (cI b :: cI a :: rest)) := lv_imul X.1 X.2.1 hdg (by rw [← Int32.ofInt_mul]; exact k)
theorem r_ineg (X : CallFix p m c cc nL s args Ts own) {a : Int} (hdg : decode cc pc = .ok (.ineg, 1))
    (k : W p l e R s m args below meth c H locs cells slots Q (F0 m (pc + 1) ls (cI (-a) :: rest))) : W p l e R s m args below meth c H locs cells slots Q (F0 m pc ls (cI a :: rest)) := lv_ineg X.1 X.2.1 hdg (by rw [← Int32.ofInt_neg]; exact k)
theorem r_irem {a b : Int} (ha : 0 ≤ a) (ha2 : inR a) (hb : 0 < b) (hb2 : inR b) : Int32.ofInt a - Int32.ofInt a / Int32.ofInt b * Int32.ofInt b = Int32.ofInt (a % b) := by
  obtain ⟨n, rfl⟩ := Int.eq_ofNat_of_zero_le ha
  obtain ⟨d, rfl⟩ := Int.eq_ofNat_of_zero_le (Int.le_of_lt hb)
  have e1 : ∀ k : Nat, Int32.ofInt (k : Int) = nI k := fun k => rfl
  have h2 := ha2.2
  have h3 := hb2.2
  show nI n - nI n / nI d * nI d = _
  rw [pk_rem (by omega) (by omega) (by omega)]
  show nI (n % d) = _
  rfl
theorem r_iremW (X : CallFix p m c cc nL s args Ts own) {a b : Int} (ha : 0 ≤ a) (ha2 : inR a) (hb : 0 < b) (hb2 : inR b) (hdg : decode cc pc = .ok (.irem, 1))
    (k : W p l e R s m args below meth c H locs cells slots Q (F0 m (pc + 1) ls (cI (a % b) :: rest))) : W p l e R s m args below meth c H locs cells slots Q (F0 m pc ls (cI b :: cI a :: rest)) :=
  lv_irem X.1 X.2.1 hdg (fun h => by
    have h1 : Int32.ofInt b = Int32.ofInt 0 := h
    rw [cI_eq hb2 inR_0] at h1
    omega) (by rw [r_irem ha ha2 hb hb2]; exact k)
theorem r_iinc (X : CallFix p m c cc nL s args Ts own) {i k : Nat} {n x : Int} {lv lv' : List (Nat × Value)} (h : lv_has ls nL lv) (hk : lv[k]? = some (i, cI x)) (hn : i < nL) (hdg : decode cc pc = .ok (.iinc i n, 3)) (hl : (i, cI (x + n)) :: lv.filter (fun q => !(q.1 == i) && !(q.1 + 1 == i && q.2.category == 2)) = lv')
    (kk : ∀ ls' : Array Slot, lv_has ls' nL lv' → W p l e R s m args below meth c H locs cells slots Q (F0 m (pc + 3) ls' rest)) : W p l e R s m args below meth c H locs cells slots Q (F0 m pc ls rest) := lv_iinc X.1 X.2.1 hdg h hk (v := Int32.ofInt (x + n)) (by rw [Int32.ofInt_add]) hn hl kk
/-! branches -/
theorem r_icmp_lt (X : CallFix p m c cc nL s args Ts own) {a b off : Int} {tgt : Nat} (ha : inR a) (hb : inR b) (hdg : decode cc pc = .ok (.if_icmp .lt off, 3)) (ht : (pc : Int) + off = (tgt : Int)) (kt : a < b → W p l e R s m args below meth c H locs cells slots Q (F0 m tgt ls rest)) (kf : b ≤ a → W p l e R s m args below meth c H locs cells slots Q (F0 m (pc + 3) ls rest)) : W p l e R s m args below meth c H locs cells slots Q (F0 m pc ls (cI b :: cI a :: rest)) :=
  lv_icmp_lt X.1 X.2.1 hdg ht (fun h => kt ((cI_lt ha hb).mp h)) (fun h => kf (by rw [cI_lt ha hb] at h; omega))
theorem r_icmp_ge (X : CallFix p m c cc nL s args Ts own) {a b off : Int} {tgt : Nat} (ha : inR a) (hb : inR b) (hdg : decode cc pc = .ok (.if_icmp .ge off, 3)) (ht : (pc : Int) + off = (tgt : Int)) (kt : b ≤ a → W p l e R s m args below meth c H locs cells slots Q (F0 m tgt ls rest)) (kf : a < b → W p l e R s m args below meth c H locs cells slots Q (F0 m (pc + 3) ls rest)) : W p l e R s m args below meth c H locs cells slots Q (F0 m pc ls (cI b :: cI a :: rest)) :=
  lv_icmp_ge X.1 X.2.1 hdg ht (fun h => kt ((cI_le hb ha).mp h)) (fun h => kf (by rw [cI_le hb ha] at h; omega))
theorem r_icmp_gt (X : CallFix p m c cc nL s args Ts own) {a b off : Int} {tgt : Nat} (ha : inR a) (hb : inR b) (hdg : decode cc pc = .ok (.if_icmp .gt off, 3)) (ht : (pc : Int) + off = (tgt : Int)) (kt : b < a → W p l e R s m args below meth c H locs cells slots Q (F0 m tgt ls rest)) (kf : a ≤ b → W p l e R s m args below meth c H locs cells slots Q (F0 m (pc + 3) ls rest)) : W p l e R s m args below meth c H locs cells slots Q (F0 m pc ls (cI b :: cI a :: rest)) :=
  lv_icmp_gt X.1 X.2.1 hdg ht (fun h => kt ((cI_lt hb ha).mp h)) (fun h => kf (by rw [cI_lt hb ha] at h; omega))
theorem r_icmp_le (X : CallFix p m c cc nL s args Ts own) {a b off : Int} {tgt : Nat} (ha : inR a) (hb : inR b) (hdg : decode cc pc = .ok (.if_icmp .le off, 3)) (ht : (pc : Int) + off = (tgt : Int)) (kt : a ≤ b → W p l e R s m args below meth c H locs cells slots Q (F0 m tgt ls rest)) (kf : b < a → W p l e R s m args below meth c H locs cells slots Q (F0 m (pc + 3) ls rest)) : W p l e R s m args below meth c H locs cells slots Q (F0 m pc ls (cI b :: cI a :: rest)) :=
  lv_icmp_le X.1 X.2.1 hdg ht (fun h => kt ((cI_le ha hb).mp h)) (fun h => kf (by rw [cI_le ha hb] at h; omega))
theorem r_icmp_eq (X : CallFix p m c cc nL s args Ts own) {a b off : Int} {tgt : Nat} (ha : inR a) (hb : inR b) (hdg : decode cc pc = .ok (.if_icmp .eq off, 3)) (ht : (pc : Int) + off = (tgt : Int)) (kt : a = b → W p l e R s m args below meth c H locs cells slots Q (F0 m tgt ls rest)) (kf : a ≠ b → W p l e R s m args below meth c H locs cells slots Q (F0 m (pc + 3) ls rest)) : W p l e R s m args below meth c H locs cells slots Q (F0 m pc ls (cI b :: cI a :: rest)) :=
  lv_icmp_eq X.1 X.2.1 hdg ht (fun h => kt ((cI_eq ha hb).mp h)) (fun h => kf (fun q => h ((cI_eq ha hb).mpr q)))
theorem r_icmp_ne (X : CallFix p m c cc nL s args Ts own) {a b off : Int} {tgt : Nat} (ha : inR a) (hb : inR b) (hdg : decode cc pc = .ok (.if_icmp .ne off, 3)) (ht : (pc : Int) + off = (tgt : Int)) (kt : a ≠ b → W p l e R s m args below meth c H locs cells slots Q (F0 m tgt ls rest)) (kf : a = b → W p l e R s m args below meth c H locs cells slots Q (F0 m (pc + 3) ls rest)) : W p l e R s m args below meth c H locs cells slots Q (F0 m pc ls (cI b :: cI a :: rest)) :=
  lv_icmp_ne X.1 X.2.1 hdg ht (fun h => kt (fun q => h ((cI_eq ha hb).mpr q))) (fun h => kf ((cI_eq ha hb).mp h))
theorem r_if_lt (X : CallFix p m c cc nL s args Ts own) {a off : Int} {tgt : Nat} (ha : inR a) (hdg : decode cc pc = .ok (.ifCond .lt off, 3)) (ht : (pc : Int) + off = (tgt : Int)) (kt : a < 0 → W p l e R s m args below meth c H locs cells slots Q (F0 m tgt ls rest)) (kf : 0 ≤ a → W p l e R s m args below meth c H locs cells slots Q (F0 m (pc + 3) ls rest)) : W p l e R s m args below meth c H locs cells slots Q (F0 m pc ls (cI a :: rest)) :=
  lv_if_lt X.1 X.2.1 hdg ht (fun h => kt ((cI_lt ha inR_0).mp h)) (fun h => kf (by have h2 : ¬ Int32.ofInt a < Int32.ofInt 0 := h; rw [cI_lt ha inR_0] at h2; omega))
theorem r_if_ge (X : CallFix p m c cc nL s args Ts own) {a off : Int} {tgt : Nat} (ha : inR a) (hdg : decode cc pc = .ok (.ifCond .ge off, 3)) (ht : (pc : Int) + off = (tgt : Int)) (kt : 0 ≤ a → W p l e R s m args below meth c H locs cells slots Q (F0 m tgt ls rest)) (kf : a < 0 → W p l e R s m args below meth c H locs cells slots Q (F0 m (pc + 3) ls rest)) : W p l e R s m args below meth c H locs cells slots Q (F0 m pc ls (cI a :: rest)) :=
  lv_if_ge X.1 X.2.1 hdg ht (fun h => kt ((cI_le inR_0 ha).mp h)) (fun h => kf (by have h2 : ¬ Int32.ofInt 0 ≤ Int32.ofInt a := h; rw [cI_le inR_0 ha] at h2; omega))
theorem r_if_gt (X : CallFix p m c cc nL s args Ts own) {a off : Int} {tgt : Nat} (ha : inR a) (hdg : decode cc pc = .ok (.ifCond .gt off, 3)) (ht : (pc : Int) + off = (tgt : Int)) (kt : 0 < a → W p l e R s m args below meth c H locs cells slots Q (F0 m tgt ls rest)) (kf : a ≤ 0 → W p l e R s m args below meth c H locs cells slots Q (F0 m (pc + 3) ls rest)) : W p l e R s m args below meth c H locs cells slots Q (F0 m pc ls (cI a :: rest)) :=
  lv_if_gt X.1 X.2.1 hdg ht (fun h => kt ((cI_lt inR_0 ha).mp h)) (fun h => kf (by have h2 : ¬ Int32.ofInt 0 < Int32.ofInt a := h; rw [cI_lt inR_0 ha] at h2; omega))
theorem r_if_le (X : CallFix p m c cc nL s args Ts own) {a off : Int} {tgt : Nat} (ha : inR a) (hdg : decode cc pc = .ok (.ifCond .le off, 3)) (ht : (pc : Int) + off = (tgt : Int)) (kt : a ≤ 0 → W p l e R s m args below meth c H locs cells slots Q (F0 m tgt ls rest)) (kf : 0 < a → W p l e R s m args below meth c H locs cells slots Q (F0 m (pc + 3) ls rest)) : W p l e R s m args below meth c H locs cells slots Q (F0 m pc ls (cI a :: rest)) :=
  lv_if_le X.1 X.2.1 hdg ht (fun h => kt ((cI_le ha inR_0).mp h)) (fun h => kf (by have h2 : ¬ Int32.ofInt a ≤ Int32.ofInt 0 := h; rw [cI_le ha inR_0] at h2; omega))
theorem r_if_eq (X : CallFix p m c cc nL s args Ts own) {a off : Int} {tgt : Nat} (ha : inR a) (hdg : decode cc pc = .ok (.ifCond .eq off, 3)) (ht : (pc : Int) + off = (tgt : Int)) (kt : a = 0 → W p l e R s m args below meth c H locs cells slots Q (F0 m tgt ls rest)) (kf : a ≠ 0 → W p l e R s m args below meth c H locs cells slots Q (F0 m (pc + 3) ls rest)) : W p l e R s m args below meth c H locs cells slots Q (F0 m pc ls (cI a :: rest)) :=
  lv_if_eq X.1 X.2.1 hdg ht (fun h => kt ((cI_eq ha inR_0).mp h)) (fun h => kf (fun q => h ((cI_eq ha inR_0).mpr q)))
theorem r_if_ne (X : CallFix p m c cc nL s args Ts own) {a off : Int} {tgt : Nat} (ha : inR a) (hdg : decode cc pc = .ok (.ifCond .ne off, 3)) (ht : (pc : Int) + off = (tgt : Int)) (kt : a ≠ 0 → W p l e R s m args below meth c H locs cells slots Q (F0 m tgt ls rest)) (kf : a = 0 → W p l e R s m args below meth c H locs cells slots Q (F0 m (pc + 3) ls rest)) : W p l e R s m args below meth c H locs cells slots Q (F0 m pc ls (cI a :: rest)) :=
  lv_if_ne X.1 X.2.1 hdg ht (fun h => kt (fun q => h ((cI_eq ha inR_0).mpr q))) (fun h => kf ((cI_eq ha inR_0).mp h))
theorem r_tabIn (X : CallFix p m c cc nL s args Ts own) {dflt lo hi a : Int} {offs : Array Int} {len : Nat} {off : Int} {tgt : Nat} (ha : inR a) (hdg : decode cc pc = .ok (.tableswitch dflt lo hi offs, len)) (i : Int) (hi1 : a = i) (h1 : ¬ i < lo) (h2 : ¬ hi < i) (ho : offs[(i - lo).toNat]? = some off) (ht : (pc : Int) + off = (tgt : Int))
    (k : W p l e R s m args below meth c H locs cells slots Q (F0 m tgt ls rest)) : W p l e R s m args below meth c H locs cells slots Q (F0 m pc ls (cI a :: rest)) := by
  subst hi1
  exact lv_tableIn X.1 X.2.1 hdg (by rw [inR_ofInt ha]; exact h1) (by rw [inR_ofInt ha]; exact h2) (by rw [inR_ofInt ha]; exact ho) ht k
theorem r_tabOut (X : CallFix p m c cc nL s args Ts own) {dflt lo hi a : Int} {offs : Array Int} {len : Nat} {tgt : Nat} (ha : inR a) (hdg : decode cc pc = .ok (.tableswitch dflt lo hi offs, len)) (h : a < lo ∨ hi < a) (ht : (pc : Int) + dflt = (tgt : Int))
    (k : W p l e R s m args below meth c H locs cells slots Q (F0 m tgt ls rest)) : W p l e R s m args below meth c H locs cells slots Q (F0 m pc ls (cI a :: rest)) :=
  lv_tableOut X.1 X.2.1 hdg (by rw [inR_ofInt ha]; exact h) ht k
theorem r_lookup (X : CallFix p m c cc nL s args Ts own) {dflt a : Int} {ps : Array (Int × Int)} {len : Nat} {off : Int} {tgt : Nat} (ha : inR a) (hdg : decode cc pc = .ok (.lookupswitch dflt ps, len)) (hp : (ps.toList.zip (ps.toList.drop 1)).all (fun (a, next) => a.1 < next.1) = true) (ho : Op.lookupswitch.offset ps.toList dflt a = off) (ht : (pc : Int) + off = (tgt : Int))
    (k : W p l e R s m args below meth c H locs cells slots Q (F0 m tgt ls rest)) : W p l e R s m args below meth c H locs cells slots Q (F0 m pc ls (cI a :: rest)) :=
  lv_lookup X.1 X.2.1 hdg hp (by rw [inR_ofInt ha]; exact ho) ht k
/-! longs -/
theorem r_i2l (X : CallFix p m c cc nL s args Ts own) {a : Int} (ha : inR a) (hdg : decode cc pc = .ok (.i2l, 1)) (k : W p l e R s m args below meth c H locs cells slots Q (F0 m (pc + 1) ls (cL a :: rest))) : W p l e R s m args below meth c H locs cells slots Q (F0 m pc ls (cI a :: rest)) := lv_i2l X.1 X.2.1 hdg (cI_i2l ha) k
theorem r_lconst (X : CallFix p m c cc nL s args Ts own) {n : Fin 2} {v : Int} (hdg : decode cc pc = .ok (.lconst n, 1)) (hv : Int64.ofNat (n : Nat) = Int64.ofInt v) (k : W p l e R s m args below meth c H locs cells slots Q (F0 m (pc + 1) ls (cL v :: rest))) : W p l e R s m args below meth c H locs cells slots Q (F0 m pc ls rest) := lv_lconst X.1 X.2.1 hdg hv k
theorem r_lsub (X : CallFix p m c cc nL s args Ts own) {a b : Int} (hdg : decode cc pc = .ok (.lsub, 1)) (k : W p l e R s m args below meth c H locs cells slots Q (F0 m (pc + 1) ls (cL (a - b) :: rest))) : W p l e R s m args below meth c H locs cells slots Q (F0 m pc ls (cL b :: cL a :: rest)) := lv_lsub X.1 X.2.1 hdg (by rw [← Int64.ofInt_sub]; exact k)
theorem r_ldc2 (X : CallFix p m c cc nL s args Ts own) {index : Nat} {v : Int} (hc : Cond.constantLong own index (Int64.ofInt v) ∈ Ts) (hdg : decode cc pc = .ok (.ldc2_w index, 3)) (k : W p l e R s m args below meth c H locs cells slots Q (F0 m (pc + 3) ls (cL v :: rest))) : W p l e R s m args below meth c H locs cells slots Q (F0 m pc ls rest) := lv_ldc2 X.1 X.2.1 X.2.2.2.1 (X.2.2.2.2 _ hc) hdg k
theorem cL_lt {x y : Int} (hx : inL x) (hy : inL y) : Int64.ofInt x < Int64.ofInt y ↔ x < y := by
  rw [Int64.lt_iff_toInt_lt, inL_ofInt hx, inL_ofInt hy]
theorem cL_eq {x y : Int} (hx : inL x) (hy : inL y) : Int64.ofInt x = Int64.ofInt y ↔ x = y := by
  constructor
  · intro h
    have h2 := congrArg Int64.toInt h
    rwa [inL_ofInt hx, inL_ofInt hy] at h2
  · intro h; rw [h]
theorem r_lcmp (X : CallFix p m c cc nL s args Ts own) {a b : Int} (ha : inL a) (hb : inL b) (hdg : decode cc pc = .ok (.lcmp, 1))
    (k : ∀ r : Int, inR r → (a < b ↔ r < 0) → (b < a ↔ 0 < r) → W p l e R s m args below meth c H locs cells slots Q (F0 m (pc + 1) ls (cI r :: rest))) : W p l e R s m args below meth c H locs cells slots Q (F0 m pc ls (cL b :: cL a :: rest)) := by
  refine W.lcmp X.1 X.2.1 hdg ?_
  unfold lg_cmp
  rcases Int.lt_trichotomy a b with h | h | h
  · rw [if_neg (by show ¬ Int64.ofInt b < Int64.ofInt a; rw [cL_lt hb ha]; omega), if_neg (by rw [cL_eq ha hb]; omega)]
    exact k (-1) ⟨by decide, by decide⟩ (by omega) (by omega)
  · rw [if_neg (by show ¬ Int64.ofInt b < Int64.ofInt a; rw [cL_lt hb ha]; omega), if_pos (by rw [cL_eq ha hb]; omega)]
    exact k 0 ⟨by decide, by decide⟩ (by omega) (by omega)
  · rw [if_pos (by show Int64.ofInt b < Int64.ofInt a; rw [cL_lt hb ha]; omega)]
    exact k 1 ⟨by decide, by decide⟩ (by omega) (by omega)
end ROWS
end
section
/-! ROWS that read and write the memory; ends; calls -/
section HEAP
variable {p : Program} {l : Launch} {e : Env} {R : Room} {s : State} {m : MethodId} {args : Array Value} {below : List Frame} {meth : Method} {c : Code} {H H0 : Heap} {locs : List Loc} {cells slots : Nat} {Q : State → Prop}
variable {E : EE} {g : GG} {ad : Nat → Nat} {M : Mm} {cc : ByteArray} {nL : Nat} {Ts : List Cond} {own : String} {pc : Nat} {ls : Array Slot} {rest : List Value} {o ci index : Nat} {C : String} {T : u_T} {N : Nat}
theorem wd_obj (ho : gk g o = ci) (hc : ci < 9) : (wd E g ad M)[o]? = some (ad o, .inr (ci, fv ad (M o) o 0 (sh ci))) := by
  rw [wd_get (gk_lt (by omega)), ce_obj ho hc]
theorem wd_arr (ho : gk g o = 9) : (wd E g ad M)[o]? = some (ad o, .inl (E.2.1, gl g o, .inl (fun j : Nat => Int32.ofInt (M o j)))) := by
  rw [wd_get (gk_lt (by omega)), ce_arr ho]
theorem wd_rar (ho : gk g o = 10) : (wd E g ad M)[o]? = some (ad o, .inl (E.2.2, gl g o, .inr (.inr (.inr (.inr (fun j : Nat => some (ad (M o j).toNat))))))) := by
  rw [wd_get (gk_lt (by omega)), ce_rar ho]
theorem r_geti (X : CallFix p m c cc nL s args Ts own) (K : Kn E s) (w : Rw E g ad M H0 H locs) (hin : ∀ w ∈ u_ws C T N, w ∈ Ts) (ho : gk g o = ci) (hc : vwCl[ci]? = some (C, T, N)) (h9 : ci < 9) (k : Nat) (hk : k < N) (hs : (sh ci)[k]? = some none) (hT : (T k).1 = C) {kz : Int} (hkz : kz = (k : Int)) (hlink : Cond.fieldLink own index C (T k).2.1 (T k).2.2.1 ∈ Ts) (hdg : decode cc pc = .ok (.getfield index, 3))
    (kk : W p l e R s m args below meth c H locs cells slots Q (F0 m (pc + 3) ls (cI (M o kz) :: rest))) : W p l e R s m args below meth c H locs cells slots Q (F0 m pc ls (.ref (ad o) :: rest)) :=
  va_get (D := E.1) (ci := ci) (v := cI (M o kz)) (C := C) (T := T) (N := N) X.1 X.2.1 X.2.2.2.2 hin X.2.2.2.1 K.1 w.1 o (wd_obj ho h9) hc k hk (X.2.2.2.2 _ hlink) (fun _ q => by rw [← hT]; exact q) (by rw [fv_get_i _ 0 k hs, Nat.zero_add, hkz]) hdg kk
theorem r_getr (X : CallFix p m c cc nL s args Ts own) (K : Kn E s) (w : Rw E g ad M H0 H locs) (hin : ∀ w ∈ u_ws C T N, w ∈ Ts) (ho : gk g o = ci) (hc : vwCl[ci]? = some (C, T, N)) (h9 : ci < 9) (k : Nat) (hk : k < N) {d : Nat} (hs : (sh ci)[k]? = some (some d)) (hT : (T k).1 = C) (hlink : Cond.fieldLink own index C (T k).2.1 (T k).2.2.1 ∈ Ts) (hdg : decode cc pc = .ok (.getfield index, 3))
    (kk : W p l e R s m args below meth c H locs cells slots Q (F0 m (pc + 3) ls (.ref (ad (o + d)) :: rest))) : W p l e R s m args below meth c H locs cells slots Q (F0 m pc ls (.ref (ad o) :: rest)) :=
  va_get (D := E.1) (ci := ci) (v := .ref (ad (o + d))) (C := C) (T := T) (N := N) X.1 X.2.1 X.2.2.2.2 hin X.2.2.2.1 K.1 w.1 o (wd_obj ho h9) hc k hk (X.2.2.2.2 _ hlink) (fun _ q => by rw [← hT]; exact q) (fv_get_r _ 0 k d hs) hdg kk
theorem r_getiN (X : CallFix p m c cc nL s args Ts own) (K : Kn E s) (w : Rw E g ad M H0 H locs) (hin : ∀ w ∈ u_ws C T N, w ∈ Ts) (ho : gk g o = ci) (hc : vwCl[ci]? = some (C, T, N)) (h9 : ci < 9) (k : Nat) (hk : k < N) (hs : (sh ci)[k]? = some none) (hT : (T k).1 = C) {kz : Int} (hkz : kz = (k : Int)) {host : String} (hlink : Cond.fieldLinkNest own index C (T k).2.1 (T k).2.2.1 host ∈ nsF) (hdg : decode cc pc = .ok (.getfield index, 3))
    (kk : W p l e R s m args below meth c H locs cells slots Q (F0 m (pc + 3) ls (cI (M o kz) :: rest))) : W p l e R s m args below meth c H locs cells slots Q (F0 m pc ls (.ref (ad o) :: rest)) :=
  va_getN (D := E.1) (ci := ci) (v := cI (M o kz)) (C := C) (T := T) (N := N) X.1 X.2.1 X.2.2.2.2 hin X.2.2.2.1 K.1 w.1 o (wd_obj ho h9) hc k hk (va_Nw.use rfl (K.2.1 _ hlink)) (fun _ q => by rw [← hT]; exact q) (by rw [fv_get_i _ 0 k hs, Nat.zero_add, hkz]) hdg kk
theorem r_getrN (X : CallFix p m c cc nL s args Ts own) (K : Kn E s) (w : Rw E g ad M H0 H locs) (hin : ∀ w ∈ u_ws C T N, w ∈ Ts) (ho : gk g o = ci) (hc : vwCl[ci]? = some (C, T, N)) (h9 : ci < 9) (k : Nat) (hk : k < N) {d : Nat} (hs : (sh ci)[k]? = some (some d)) (hT : (T k).1 = C) {host : String} (hlink : Cond.fieldLinkNest own index C (T k).2.1 (T k).2.2.1 host ∈ nsF) (hdg : decode cc pc = .ok (.getfield index, 3))
    (kk : W p l e R s m args below meth c H locs cells slots Q (F0 m (pc + 3) ls (.ref (ad (o + d)) :: rest))) : W p l e R s m args below meth c H locs cells slots Q (F0 m pc ls (.ref (ad o) :: rest)) :=
  va_getN (D := E.1) (ci := ci) (v := .ref (ad (o + d))) (C := C) (T := T) (N := N) X.1 X.2.1 X.2.2.2.2 hin X.2.2.2.1 K.1 w.1 o (wd_obj ho h9) hc k hk (va_Nw.use rfl (K.2.1 _ hlink)) (fun _ q => by rw [← hT]; exact q) (fv_get_r _ 0 k d hs) hdg kk
theorem wd_puti {k : Nat} {kz v : Int} (ho : gk g o = ci) (h9 : ci < 9) (hs : (sh ci)[k]? = some none) (hkz : kz = (k : Int)) : (wd E g ad M).set o (ad o, .inr (ci, (fv ad (M o) o 0 (sh ci)).set k (cI v))) = wd E g ad (mu M o kz v) := by
  refine wd_set (gk_lt (by omega)) (fun o' h => mu_ne h) ?_
  rw [ce_obj ho h9, fv_set _ 0 k hs, mu_eq, Nat.zero_add, hkz]
theorem r_puti (X : CallFix p m c cc nL s args Ts own) (K : Kn E s) (w : Rw E g ad M H0 H locs) (hin : ∀ w ∈ u_ws C T N, w ∈ Ts) (ty0 : Nat → FieldType) (hty : ∀ k, k < N → parseFieldDescriptor (T k).2.2.1 = some (ty0 k)) (hnm : ∀ a, a < N → ∀ b, b < N → a ≠ b → (T a).2.1 ≠ (T b).2.1) (ho : gk g o = ci) (hc : vwCl[ci]? = some (C, T, N)) (h9 : ci < 9) (k : Nat) (hk : k < N) (hs : (sh ci)[k]? = some none) (hT : (T k).1 = C) {kz : Int} (hkz : kz = (k : Int)) (hfin : (T k).2.2.2 = false) {ty : FieldType} (hd : parseFieldDescriptor (T k).2.2.1 = some ty) {v : Int} (hn : narrow ty (cI v) = cI v) (hfit : fits ty (cI v) = true) (hlink : Cond.fieldLink own index C (T k).2.1 (T k).2.2.1 ∈ Ts) (hdg : decode cc pc = .ok (.putfield index, 3))
    (kk : ∀ (M1 : Mm) (H1 : Heap) (locs1 : List Loc), M1 = mu M o kz v → Rw E g ad M1 H0 H1 locs1 → W p l e R s m args below meth c H1 locs1 cells slots Q (F0 m (pc + 3) ls rest)) : W p l e R s m args below meth c H locs cells slots Q (F0 m pc ls (cI v :: .ref (ad o) :: rest)) := by
  refine va_put (D := E.1) (ci := ci) (v := cI v) (ty := ty) (C := C) (T := T) (N := N) X.1 X.2.1 X.2.2.2.2 hin ty0 hty hnm X.2.2.2.1 K.1 w.1 w.2.1 w.2.2 o (wd_obj ho h9) hc k hk (X.2.2.2.2 _ hlink) (fun _ q => by rw [← hT]; exact q) hfin hd hn hfit (by rw [fv_len]; exact (List.getElem?_eq_some_iff.mp hs).1) hdg (fun H1 locs1 hP hD hS => ?_)
  rw [wd_puti ho h9 hs hkz] at hP hD
  exact kk _ H1 locs1 rfl ⟨hP, hD, hS⟩
theorem r_putiN (X : CallFix p m c cc nL s args Ts own) (K : Kn E s) (w : Rw E g ad M H0 H locs) (hin : ∀ w ∈ u_ws C T N, w ∈ Ts) (ty0 : Nat → FieldType) (hty : ∀ k, k < N → parseFieldDescriptor (T k).2.2.1 = some (ty0 k)) (hnm : ∀ a, a < N → ∀ b, b < N → a ≠ b → (T a).2.1 ≠ (T b).2.1) (ho : gk g o = ci) (hc : vwCl[ci]? = some (C, T, N)) (h9 : ci < 9) (k : Nat) (hk : k < N) (hs : (sh ci)[k]? = some none) (hT : (T k).1 = C) {kz : Int} (hkz : kz = (k : Int)) (hfin : (T k).2.2.2 = false) {ty : FieldType} (hd : parseFieldDescriptor (T k).2.2.1 = some ty) {v : Int} (hn : narrow ty (cI v) = cI v) (hfit : fits ty (cI v) = true) {host : String} (hlink : Cond.fieldLinkNest own index C (T k).2.1 (T k).2.2.1 host ∈ nsF) (hdg : decode cc pc = .ok (.putfield index, 3))
    (kk : ∀ (M1 : Mm) (H1 : Heap) (locs1 : List Loc), M1 = mu M o kz v → Rw E g ad M1 H0 H1 locs1 → W p l e R s m args below meth c H1 locs1 cells slots Q (F0 m (pc + 3) ls rest)) : W p l e R s m args below meth c H locs cells slots Q (F0 m pc ls (cI v :: .ref (ad o) :: rest)) := by
  refine va_putN (D := E.1) (ci := ci) (v := cI v) (ty := ty) (C := C) (T := T) (N := N) X.1 X.2.1 X.2.2.2.2 hin ty0 hty hnm X.2.2.2.1 K.1 w.1 w.2.1 w.2.2 o (wd_obj ho h9) hc k hk (va_Nw.use rfl (K.2.1 _ hlink)) (fun _ q => by rw [← hT]; exact q) hfin hd hn hfit (by rw [fv_len]; exact (List.getElem?_eq_some_iff.mp hs).1) hdg (fun H1 locs1 hP hD hS => ?_)
  rw [wd_puti ho h9 hs hkz] at hP hD
  exact kk _ H1 locs1 rfl ⟨hP, hD, hS⟩
theorem tyE0 : (tyE E)[0]? = some (E.2.1, .int) := rfl
theorem tyE1 : (tyE E)[1]? = some (E.2.2, .object RX5) := rfl
theorem r_iald (X : CallFix p m c cc nL s args Ts own) (K : Kn E s) (w : Rw E g ad M H0 H locs) (hg : gwf g) (ho : gk g o = 9) {i : Int} (h0 : 0 ≤ i) (h1 : i < (gl g o : Int)) (hdg : decode cc pc = .ok (.iaload, 1))
    (kk : W p l e R s m args below meth c H locs cells slots Q (F0 m (pc + 1) ls (cI (M o i) :: rest))) : W p l e R s m args below meth c H locs cells slots Q (F0 m pc ls (cI i :: .ref (ad o) :: rest)) := by
  have hz := hg.2 o
  refine va_iald X.1 X.2.1 K.1 w.1 o 0 (wd_arr ho) tyE0 (cI_in h0 h1 (hg.2 o)) hdg ?_
  rw [cI_cl h0 (by omega), Int.toNat_of_nonneg h0]
  exact kk
theorem r_iast (X : CallFix p m c cc nL s args Ts own) (K : Kn E s) (w : Rw E g ad M H0 H locs) (hg : gwf g) (ho : gk g o = 9) {i v : Int} (h0 : 0 ≤ i) (h1 : i < (gl g o : Int)) (hdg : decode cc pc = .ok (.iastore, 1))
    (kk : ∀ (M1 : Mm) (H1 : Heap) (locs1 : List Loc), M1 = mu M o i v → Rw E g ad M1 H0 H1 locs1 → W p l e R s m args below meth c H1 locs1 cells slots Q (F0 m (pc + 1) ls rest)) : W p l e R s m args below meth c H locs cells slots Q (F0 m pc ls (cI v :: cI i :: .ref (ad o) :: rest)) := by
  have hz := hg.2 o
  refine va_iast X.1 X.2.1 K.1 w.1 w.2.1 w.2.2 o 0 (wd_arr ho) tyE0 (cI_in h0 h1 (hg.2 o)) hdg (fun H1 locs1 hP hD hS => ?_)
  have he : (wd E g ad M).set o (ad o, .inl (E.2.1, gl g o, .inl (upd (fun j : Nat => Int32.ofInt (M o j)) (Int32.ofInt i).toNatClampNeg (Int32.ofInt v)))) = wd E g ad (mu M o i v) := by
    refine wd_set (gk_lt (by omega)) (fun o' h => mu_ne h) ?_
    rw [ce_arr ho, mu_eq, cI_cl h0 (by omega)]
    congr 1
    congr 1
    congr 1
    congr 1
    funext j
    show Int32.ofInt (if (j : Int) = i then v else M o j) = if j = i.toNat then Int32.ofInt v else Int32.ofInt (M o j)
    by_cases hj : (j : Int) = i
    · rw [if_pos hj, if_pos (by omega)]
    · rw [if_neg hj, if_neg (by omega)]
  rw [he] at hP hD
  exact kk _ H1 locs1 rfl ⟨hP, hD, hS⟩
theorem r_alen (X : CallFix p m c cc nL s args Ts own) (K : Kn E s) (w : Rw E g ad M H0 H locs) (ho : gk g o = 9) (hdg : decode cc pc = .ok (.arraylength, 1))
    (kk : W p l e R s m args below meth c H locs cells slots Q (F0 m (pc + 1) ls (cI (gl g o : Int) :: rest))) : W p l e R s m args below meth c H locs cells slots Q (F0 m pc ls (.ref (ad o) :: rest)) :=
  va_alen X.1 X.2.1 K.1 w.1 o 0 (wd_arr ho) tyE0 rfl hdg kk
theorem r_alenR (X : CallFix p m c cc nL s args Ts own) (K : Kn E s) (w : Rw E g ad M H0 H locs) (ho : gk g o = 10) (hdg : decode cc pc = .ok (.arraylength, 1))
    (kk : W p l e R s m args below meth c H locs cells slots Q (F0 m (pc + 1) ls (cI (gl g o : Int) :: rest))) : W p l e R s m args below meth c H locs cells slots Q (F0 m pc ls (.ref (ad o) :: rest)) :=
  va_alen X.1 X.2.1 K.1 w.1 o 1 (wd_rar ho) tyE1 rfl hdg kk
theorem r_aald (X : CallFix p m c cc nL s args Ts own) (K : Kn E s) (w : Rw E g ad M H0 H locs) (hg : gwf g) (ho : gk g o = 10) {i : Int} (h0 : 0 ≤ i) (h1 : i < (gl g o : Int)) (hdg : decode cc pc = .ok (.aaload, 1))
    (kk : W p l e R s m args below meth c H locs cells slots Q (F0 m (pc + 1) ls (.ref (ad (M o i).toNat) :: rest))) : W p l e R s m args below meth c H locs cells slots Q (F0 m pc ls (cI i :: .ref (ad o) :: rest)) := by
  have hz := hg.2 o
  refine va_aldq X.1 X.2.1 K.1 w.1 o 1 (wd_rar ho) tyE1 (cI_in h0 h1 (hg.2 o)) hdg ?_
  rw [cI_cl h0 (by omega), Int.toNat_of_nonneg h0]
  exact kk
theorem r_aast (X : CallFix p m c cc nL s args Ts own) (K : Kn E s) (w : Rw E g ad M H0 H locs) (hg : gwf g) (ho : gk g o = 10) {v : Nat} (hv : gk g v = 5) {i : Int} (h0 : 0 ≤ i) (h1 : i < (gl g o : Int)) (hdg : decode cc pc = .ok (.aastore, 1))
    (kk : ∀ (M1 : Mm) (H1 : Heap) (locs1 : List Loc), M1 = mu M o i (v : Int) → Rw E g ad M1 H0 H1 locs1 → W p l e R s m args below meth c H1 locs1 cells slots Q (F0 m (pc + 1) ls rest)) : W p l e R s m args below meth c H locs cells slots Q (F0 m pc ls (.ref (ad v) :: cI i :: .ref (ad o) :: rest)) := by
  have hz := hg.2 o
  refine va_astq (r := (RX5, TX5, 11)) X.1 X.2.1 K.1 w.1 w.2.1 w.2.2 o 1 v 5 (wd_rar ho) tyE1 (wd_obj hv (by decide)) rfl (cI_in h0 h1 (hg.2 o)) hdg (fun H1 locs1 hP hD hS => ?_)
  have he : (wd E g ad M).set o (ad o, .inl (E.2.2, gl g o, .inr (.inr (.inr (.inr (va_up (fun j : Nat => some (ad (M o j).toNat)) (Int32.ofInt i).toNatClampNeg (some (ad v)))))))) = wd E g ad (mu M o i (v : Int)) := by
    refine wd_set (gk_lt (by omega)) (fun o' h => mu_ne h) ?_
    rw [ce_rar ho, mu_eq, cI_cl h0 (by omega)]
    congr 1
    congr 1
    congr 1
    congr 1
    congr 1
    congr 1
    congr 1
    funext j
    show some (ad (if (j : Int) = i then (v : Int) else M o j).toNat) = if j = i.toNat then some (ad v) else some (ad (M o j).toNat)
    by_cases hj : (j : Int) = i
    · rw [if_pos hj, if_pos (by omega)]; rfl
    · rw [if_neg hj, if_neg (by omega)]
  rw [he] at hP hD
  exact kk _ H1 locs1 rfl ⟨hP, hD, hS⟩
/-! ends -/
theorem Rw.F {t : State} (w : Rw E g ad M s.heap H locs) (ht : t.heap = H) : va_F (Rg g ad) s t := w.2.2.F ht
theorem r_ireturn {Qm : Int → Mm → Prop} (X : CallFix p m c cc nL s args Ts own) (hr : meth.sig.returnType = some .int) (hlk : meth.locks = false) (K : Kn E s) (w : Rw E g ad M s.heap H locs) {v : Int} (hq : Qm v M) (hdg : decode cc pc = .ok (.ireturn, 1)) : W p l e R s m args below meth c H locs cells slots (MQ below (QI E g ad Qm) args s cells slots (Rg g ad)) (F0 m pc ls [cI v]) :=
  W.iret X.1 X.2.1 hr (fun t ht hW => ⟨⟨_, (v, M), rfl, ⟨rfl, hq⟩, w.p ht (K.warm hW)⟩, w.F ht⟩) w.2.2.2.2 hdg hlk
theorem r_zreturn {Qm : Int → Mm → Prop} (X : CallFix p m c cc nL s args Ts own) (hr : meth.sig.returnType = some .boolean) (hlk : meth.locks = false) (K : Kn E s) (w : Rw E g ad M s.heap H locs) {v : Int} (hn : narrow .boolean (cI v) = cI v) (hq : Qm v M) (hdg : decode cc pc = .ok (.ireturn, 1)) : W p l e R s m args below meth c H locs cells slots (MQ below (QI E g ad Qm) args s cells slots (Rg g ad)) (F0 m pc ls [cI v]) :=
  W.zret X.1 X.2.1 hr hn (fun t ht hW => ⟨⟨_, (v, M), rfl, ⟨rfl, hq⟩, w.p ht (K.warm hW)⟩, w.F ht⟩) w.2.2.2.2 hdg hlk
theorem r_return {Qm : Mm → Prop} (X : CallFix p m c cc nL s args Ts own) (hr : meth.sig.returnType = none) (hlk : meth.locks = false) (K : Kn E s) (w : Rw E g ad M s.heap H locs) (hq : Qm M) (hdg : decode cc pc = .ok (.return_, 1)) : W p l e R s m args below meth c H locs cells slots (MQ below (QV E g ad Qm) args s cells slots (Rg g ad)) (F0 m pc ls []) :=
  W.vret X.1 X.2.1 hr (fun t ht hW => ⟨⟨M, rfl, hq, w.p ht (K.warm hW)⟩, w.F ht⟩) w.2.2.2.2 hdg hlk
theorem r_areturn {ck : Nat} {Qm : Nat → Mm → Prop} {rt : FieldType} (X : CallFix p m c cc nL s args Ts own) (hr : meth.sig.returnType = some rt) (hrt : (∃ n, rt = .object n) ∨ ∃ t, rt = .array t) (hlk : meth.locks = false) (K : Kn E s) (w : Rw E g ad M s.heap H locs) {v : Nat} (hv : gk g v = ck) (hq : Qm v M) (hdg : decode cc pc = .ok (.areturn, 1)) : W p l e R s m args below meth c H locs cells slots (MQ below (QR E g ad ck Qm) args s cells slots (Rg g ad)) (F0 m pc ls [.ref (ad v)]) :=
  W.aret X.1 X.2.1 hr hrt (Or.inr ⟨_, rfl⟩) (fun t ht hW => ⟨⟨(v, M), ad v, rfl, ⟨hq, hv⟩, rfl, w.p ht (K.warm hW)⟩, w.F ht⟩) w.2.2.2.2 hdg hlk
theorem r_areturnO {ck : Nat} {Qm : Option Nat → Mm → Prop} {rt : FieldType} (X : CallFix p m c cc nL s args Ts own) (hr : meth.sig.returnType = some rt) (hrt : (∃ n, rt = .object n) ∨ ∃ t, rt = .array t) (hlk : meth.locks = false) (K : Kn E s) (w : Rw E g ad M s.heap H locs) {v : Nat} (hv : gk g v = ck) (hq : Qm (some v) M) (hdg : decode cc pc = .ok (.areturn, 1)) : W p l e R s m args below meth c H locs cells slots (MQ below (QO E g ad ck Qm) args s cells slots (Rg g ad)) (F0 m pc ls [.ref (ad v)]) :=
  W.aret X.1 X.2.1 hr hrt (Or.inr ⟨_, rfl⟩) (fun t ht hW => ⟨⟨some (ad v), (some v, M), rfl, ⟨rfl, hq, fun x hx => by cases hx; exact hv⟩, w.p ht (K.warm hW)⟩, w.F ht⟩) w.2.2.2.2 hdg hlk
theorem r_areturnN {ck : Nat} {Qm : Option Nat → Mm → Prop} {rt : FieldType} (X : CallFix p m c cc nL s args Ts own) (hr : meth.sig.returnType = some rt) (hrt : (∃ n, rt = .object n) ∨ ∃ t, rt = .array t) (hlk : meth.locks = false) (K : Kn E s) (w : Rw E g ad M s.heap H locs) (hq : Qm none M) (hdg : decode cc pc = .ok (.areturn, 1)) : W p l e R s m args below meth c H locs cells slots (MQ below (QO E g ad ck Qm) args s cells slots (Rg g ad)) (F0 m pc ls [.null]) :=
  W.aret X.1 X.2.1 hr hrt (Or.inl rfl) (fun t ht hW => ⟨⟨none, (none, M), rfl, ⟨rfl, hq, fun x hx => by cases hx⟩, w.p ht (K.warm hW)⟩, w.F ht⟩) w.2.2.2.2 hdg hlk
end HEAP
end
section
/-! CALLS over the pure memory -/
theorem nz {r : Int} (h : r = 0 ∨ r = 1) : narrow .boolean (cI r) = cI r := by
  rcases h with rfl | rfl <;> decide +kernel
theorem fz {r : Int} (h : r = 0 ∨ r = 1) : fits .boolean (cI r) = true := by
  rcases h with rfl | rfl <;> decide +kernel
section CALLS
variable {p : Program} {l : Launch} {e : Env} {R : Room} {s : State} {m : MethodId} {args : Array Value} {below : List Frame} {meth : Method} {c : Code} {H H0 : Heap} {locs : List Loc} {cells slots : Nat} {Q : State → Prop}
variable {E : EE} {g : GG} {ad : Nat → Nat} {M : Mm} {cc : ByteArray} {nL : Nat} {Ts : List Cond} {own : String} {pc : Nat} {ls : Array Slot} {rest st0 : List Value} {o ci index n maxL : Nat} {C : String} {T : u_T} {N : Nat} {y : MethodName} {bytes : ByteArray} {ret : Option FieldType} {ws : List Cond} {rm : Room} {As : List Value} {lv : List (Nat × Value)}
theorem Rp.blind {av : List Value} : FrameBlind (va_Pc av (fun U => Rp E g ad M U)) := by
  intro a U gg mk h
  obtain ⟨h1, h2⟩ := h
  exact ⟨h1, h2.1, h2.2.1, Kn.calling h2.2.2⟩
theorem Rw.pre {av : List Value} (K : Kn E s) (w : Rw E g ad M H0 H locs) : PreS s H (va_Pc av (fun U => Rp E g ad M U)) av := ⟨Rp.blind, fun U hU hW => ⟨rfl, w.p hU (K.warm hW)⟩⟩
theorem Rw.preV {av : List Value} (K : Kn E s) (w : Rw E g ad M H0 H locs) (ho : gk g o = ci) (h9 : ci < 9) (hc : vwCl[ci]? = some (C, T, N)) : PreV s H C (ad o) (va_Pc (.ref (ad o) :: av) (fun U => Rp E g ad M U)) av :=
  ⟨Rp.blind, va_recv K.1 w.1 hc (wd_obj ho h9), fun U hU hW => ⟨rfl, w.p hU (K.warm hW)⟩⟩
/-- a call that comes back with a memory: what the caller goes on with -/
theorem Rw.back {M1 : Mm} {t : State} {H1 : Heap} {locs1 : List Loc} (hS : va_S (Rg g ad) H0 H1 locs1) (ht : t.heap = H1) (h : Rp E g ad M1 t) : Rw E g ad M1 H0 H1 locs1 := ⟨by rw [← ht]; exact h.1, wd_D h.2.1, hS⟩
theorem q_i {Qm : Int → Mm → Prop} {a : Array Value} (hr : va_Run p l e R s m args below meth c H locs cells slots 0 0 (F0 m pc ls st0) rest (QI E g ad Qm a) (Rg g ad)) (w : Rw E g ad M H0 H locs)
    (kk : ∀ (r : Int) (M1 : Mm) (H1 : Heap) (locs1 : List Loc), Qm r M1 → Rw E g ad M1 H0 H1 locs1 → W p l e R s m args below meth c H1 locs1 cells slots Q (F0 m (pc + 3) ls (cI r :: rest))) : W p l e R s m args below meth c H locs cells slots Q (F0 m pc ls st0) := by
  refine va_calli hr w.2.2 (fun _ _ h => h) (fun _ h => h) (fun r u t H1 locs1 ht hvm hw hB hz1 hk1 hS => ?_)
  obtain ⟨rfl, hq⟩ := hw
  exact kk u.1 u.2 H1 locs1 hq (Rw.back hS ht hB)
theorem q_v {Qm : Mm → Prop} {a : Array Value} (hr : va_Run p l e R s m args below meth c H locs cells slots 0 0 (F0 m pc ls st0) rest (QV E g ad Qm a) (Rg g ad)) (w : Rw E g ad M H0 H locs)
    (kk : ∀ (M1 : Mm) (H1 : Heap) (locs1 : List Loc), Qm M1 → Rw E g ad M1 H0 H1 locs1 → W p l e R s m args below meth c H1 locs1 cells slots Q (F0 m (pc + 3) ls rest)) : W p l e R s m args below meth c H locs cells slots Q (F0 m pc ls st0) := by
  refine va_callv hr w.2.2 (fun _ _ h => h) (fun _ h => h) (fun u t H1 locs1 ht hvm hw hB hz1 hk1 hS => ?_)
  exact kk u H1 locs1 hw (Rw.back hS ht hB)
theorem q_r {ck : Nat} {Qm : Nat → Mm → Prop} {a : Array Value} (hr : va_Run p l e R s m args below meth c H locs cells slots 0 0 (F0 m pc ls st0) rest (QR E g ad ck Qm a) (Rg g ad)) (w : Rw E g ad M H0 H locs)
    (kk : ∀ (r : Nat) (M1 : Mm) (H1 : Heap) (locs1 : List Loc), Qm r M1 → gk g r = ck → Rw E g ad M1 H0 H1 locs1 → W p l e R s m args below meth c H1 locs1 cells slots Q (F0 m (pc + 3) ls (.ref (ad r) :: rest))) : W p l e R s m args below meth c H locs cells slots Q (F0 m pc ls st0) := by
  refine va_callr hr w.2.2 (fun _ _ h => h) (fun _ h => h) (fun u ra t H1 locs1 ht hvm hw hB hz1 hk1 hS => ?_)
  obtain ⟨rfl, hB⟩ := hB
  exact kk u.1 u.2 H1 locs1 hw.1 hw.2 (Rw.back hS ht hB)
theorem q_o {ck : Nat} {Qm : Option Nat → Mm → Prop} {a : Array Value} (hr : va_Run p l e R s m args below meth c H locs cells slots 0 0 (F0 m pc ls st0) rest (QO E g ad ck Qm a) (Rg g ad)) (w : Rw E g ad M H0 H locs)
    (kn : ∀ (M1 : Mm) (H1 : Heap) (locs1 : List Loc), Qm none M1 → Rw E g ad M1 H0 H1 locs1 → W p l e R s m args below meth c H1 locs1 cells slots Q (F0 m (pc + 3) ls (.null :: rest)))
    (kk : ∀ (r : Nat) (M1 : Mm) (H1 : Heap) (locs1 : List Loc), Qm (some r) M1 → gk g r = ck → Rw E g ad M1 H0 H1 locs1 → W p l e R s m args below meth c H1 locs1 cells slots Q (F0 m (pc + 3) ls (.ref (ad r) :: rest))) : W p l e R s m args below meth c H locs cells slots Q (F0 m pc ls st0) := by
  refine va_callq hr w.2.2 (fun _ _ h => h) (fun _ h => h) (fun r u t H1 locs1 ht hvm hw hB hz1 hk1 hS => ?_)
  obtain ⟨rfl, hq, hc⟩ := hw
  obtain ⟨u1, u2⟩ := u
  cases u1 with
  | none => exact kn u2 H1 locs1 hq (Rw.back hS ht hB)
  | some x => exact kk x u2 H1 locs1 hq (hc x rfl) (Rw.back hS ht hB)
/-- an instance method (invokevirtual) -/
theorem x_V {Qc : Array Value → State → Outcome → State → Prop} (X : CallFix p m c cc nL s args Ts own) (K : Kn E s) (w : Rw E g ad M H0 H locs) (hM : Ct E l y ws rm g ad (.ref (ad o) :: As) M Qc) (cw : CallW R s args own C index y bytes maxL ret ws rm 0 0 n) (ho : gk g o = ci) (h9 : ci < 9) (hc : vwCl[ci]? = some (C, T, N)) (hn : As.length = n) (hl : lv_has ls nL lv) (hst : st0 = As.reverse ++ .ref (ad o) :: rest) (hroom : (rest.map fun v => v.category).sum ≤ 8) (hdg : decode cc pc = .ok (.invokevirtual index, 3)) (hf : cells ≤ R.cells ∧ slots ≤ R.slots) :
    va_Run p l e R s m args below meth c H locs cells slots 0 0 (F0 m pc ls st0) rest (Qc (Value.ref (ad o) :: As).toArray) (Rg g ad) := by
  subst hst
  exact va_runV X hM cw (w.preV K ho h9 hc) rfl hn hl.1 rfl (lv_room hroom) hdg hf
/-- a static method of the same class -/
theorem x_S {Qc : Array Value → State → Outcome → State → Prop} (X : CallFix p m c cc nL s args Ts own) (K : Kn E s) (w : Rw E g ad M H0 H locs) (hM : Ct E l y ws rm g ad As M Qc) (cw : CallB R s args own index y bytes maxL ret ws rm 0 0 n ∧ (Cond.static y).before args s = true) (hn : As.length = n) (hl : lv_has ls nL lv) (hst : st0 = As.reverse ++ rest) (hroom : (rest.map fun v => v.category).sum ≤ 8) (hdg : decode cc pc = .ok (.invokestatic index, 3)) (hf : cells ≤ R.cells ∧ slots ≤ R.slots) :
    va_Run p l e R s m args below meth c H locs cells slots 0 0 (F0 m pc ls st0) rest (Qc As.toArray) (Rg g ad) := by
  subst hst
  exact va_runS X hM cw (w.pre K) rfl hn hl.1 rfl (lv_room hroom) hdg hf
/-- a private static method of a nest mate -/
theorem x_SN {host : String} {Qc : Array Value → State → Outcome → State → Prop} (X : CallFix p m c cc nL s args Ts own) (K : Kn E s) (w : Rw E g ad M H0 H locs) (hM : Ct E l y ws rm g ad As M Qc) (cw : va_CN R s args own index y host bytes maxL ret ws rm 0 0 n ∧ (Cond.static y).before args s = true ∧ True) (hn : As.length = n) (hl : lv_has ls nL lv) (hst : st0 = As.reverse ++ rest) (hroom : (rest.map fun v => v.category).sum ≤ 8) (hdg : decode cc pc = .ok (.invokestatic index, 3)) (hf : cells ≤ R.cells ∧ slots ≤ R.slots) :
    va_Run p l e R s m args below meth c H locs cells slots 0 0 (F0 m pc ls st0) rest (Qc As.toArray) (Rg g ad) := by
  subst hst
  exact va_runSN X hM cw (w.pre K) rfl hn hl.1 rfl (lv_room hroom) hdg hf
/-! Math and System -/
theorem r_max (X : CallFix p m c cc nL s args Ts own) (hl : lv_has ls nL lv) {a b : Int} (ha : inR a) (hb : inR b) (h1 : Cond.methodLink own index Lib.Math.max.name ∈ Ts) (h2 : Cond.static Lib.Math.max.name ∈ Ts) (h3 : Cond.initialized "java/lang/Math" ∈ Ts) (h4 : Cond.code Lib.Math.max.name Lib.Math.max.code 2 (some .int) ∈ Ts) (hfr : 1 ≤ R.frames) (hlo : (rest.map fun v => v.category).sum + 13 ≤ R.locals) (hf : cells ≤ R.cells ∧ slots ≤ R.slots) (hdg : decode cc pc = .ok (.invokestatic index, 3))
    (kk : W p l e R s m args below meth c H locs cells slots Q (F0 m (pc + 3) ls (cI (max a b) :: rest))) : W p l e R s m args below meth c H locs cells slots Q (F0 m pc ls (cI b :: cI a :: rest)) := by
  refine va_mmax X.1 X.2.1 (X.2.2.1.trans hl.1.symm) X.2.2.2.1 (X.2.2.2.2 _ h1) (X.2.2.2.2 _ h2) (X.2.2.2.2 _ h3) (X.2.2.2.2 _ h4) hfr hlo hf.1 hf.2 hdg ?_
  have he : (if Int32.ofInt a < Int32.ofInt b then Int32.ofInt b else Int32.ofInt a) = Int32.ofInt (max a b) := by
    by_cases h : a < b
    · rw [if_pos ((cI_lt ha hb).mpr h), show max a b = b by omega]
    · rw [if_neg (fun q => h ((cI_lt ha hb).mp q)), show max a b = a by omega]
  rw [he]
  exact kk
theorem r_min (X : CallFix p m c cc nL s args Ts own) (hl : lv_has ls nL lv) {a b : Int} (ha : inR a) (hb : inR b) (h1 : Cond.methodLink own index Lib.Math.min.name ∈ Ts) (h2 : Cond.static Lib.Math.min.name ∈ Ts) (h3 : Cond.initialized "java/lang/Math" ∈ Ts) (h4 : Cond.code Lib.Math.min.name Lib.Math.min.code 2 (some .int) ∈ Ts) (hfr : 1 ≤ R.frames) (hlo : (rest.map fun v => v.category).sum + 13 ≤ R.locals) (hf : cells ≤ R.cells ∧ slots ≤ R.slots) (hdg : decode cc pc = .ok (.invokestatic index, 3))
    (kk : W p l e R s m args below meth c H locs cells slots Q (F0 m (pc + 3) ls (cI (min a b) :: rest))) : W p l e R s m args below meth c H locs cells slots Q (F0 m pc ls (cI b :: cI a :: rest)) := by
  refine va_mmin X.1 X.2.1 (X.2.2.1.trans hl.1.symm) X.2.2.2.1 (X.2.2.2.2 _ h1) (X.2.2.2.2 _ h2) (X.2.2.2.2 _ h3) (X.2.2.2.2 _ h4) hfr hlo hf.1 hf.2 hdg ?_
  have he : (if Int32.ofInt b < Int32.ofInt a then Int32.ofInt b else Int32.ofInt a) = Int32.ofInt (min a b) := by
    by_cases h : b < a
    · rw [if_pos ((cI_lt hb ha).mpr h), show min a b = b by omega]
    · rw [if_neg (fun q => h ((cI_lt hb ha).mp q)), show min a b = a by omega]
  rw [he]
  exact kk
theorem r_abs (X : CallFix p m c cc nL s args Ts own) (hl : lv_has ls nL lv) {a : Int} (ha : inR a) (h1 : Cond.methodLink own index Lib.Math.abs.name ∈ Ts) (h2 : Cond.static Lib.Math.abs.name ∈ Ts) (h3 : Cond.initialized "java/lang/Math" ∈ Ts) (h4 : Cond.code Lib.Math.abs.name Lib.Math.abs.code 1 (some .int) ∈ Ts) (hfr : 1 ≤ R.frames) (hlo : (rest.map fun v => v.category).sum + 13 ≤ R.locals) (hf : cells ≤ R.cells ∧ slots ≤ R.slots) (hdg : decode cc pc = .ok (.invokestatic index, 3))
    (kk : W p l e R s m args below meth c H locs cells slots Q (F0 m (pc + 3) ls (cI (if 0 ≤ a then a else 0 - a) :: rest))) : W p l e R s m args below meth c H locs cells slots Q (F0 m pc ls (cI a :: rest)) := by
  refine va_mabs X.1 X.2.1 (X.2.2.1.trans hl.1.symm) X.2.2.2.1 (X.2.2.2.2 _ h1) (X.2.2.2.2 _ h2) (X.2.2.2.2 _ h3) (X.2.2.2.2 _ h4) hfr hlo hf.1 hf.2 hdg ?_
  have he : (if 0 ≤ Int32.ofInt a then Int32.ofInt a else 0 - Int32.ofInt a) = Int32.ofInt (if 0 ≤ a then a else 0 - a) := by
    have hz : (0 : Int32) ≤ Int32.ofInt a ↔ 0 ≤ a := cI_le inR_0 ha
    by_cases h : 0 ≤ a
    · rw [if_pos (hz.mpr h), if_pos h]
    · rw [if_neg (fun q => h (hz.mp q)), if_neg h, Int32.ofInt_sub]
      rfl
  rw [he]
  exact kk
theorem r_acpy (X : CallFix p m c cc nL s args Ts own) (K : Kn E s) (w : Rw E g ad M H0 H locs) (hg : gwf g) (hl : lv_has ls nL lv) {o1 o2 : Nat} (ho1 : gk g o1 = 9) (ho2 : gk g o2 = 9) {k : Int} (hk0 : 0 ≤ k) (hk1 : k ≤ (gl g o1 : Int)) (hk2 : k ≤ (gl g o2 : Int)) (h1 : Cond.methodLink own index arraycopyName ∈ Ts) (h2 : Cond.native arraycopyName ∈ Ts) (h3 : Cond.static arraycopyName ∈ Ts) (h4 : Cond.initialized "java/lang/System" ∈ Ts) (hfr : 1 ≤ R.frames) (hlo : (rest.map fun v => v.category).sum + (nativeFrameWords "java/lang/System" "arraycopy" 5 + 11) ≤ R.locals) (hdg : decode cc pc = .ok (.invokestatic index, 3))
    (kk : ∀ (M1 : Mm) (H1 : Heap) (locs1 : List Loc), M1 = mcp M o1 o2 k → Rw E g ad M1 H0 H1 locs1 → W p l e R s m args below meth c H1 locs1 cells slots Q (F0 m (pc + 3) ls rest)) : W p l e R s m args below meth c H locs cells slots Q (F0 m pc ls (cI k :: cI 0 :: .ref (ad o2) :: cI 0 :: .ref (ad o1) :: rest)) := by
  have hz := hg.2 o1
  have z0 : (Int32.ofInt 0).toNatClampNeg = 0 := by decide +kernel
  have zk : (Int32.ofInt k).toNatClampNeg = k.toNat := cI_cl hk0 (by omega)
  refine va_copyi X.1 X.2.1 (X.2.2.1.trans hl.1.symm) X.2.2.2.1 (X.2.2.2.2 _ h1) (X.2.2.2.2 _ h2) (X.2.2.2.2 _ h3) (X.2.2.2.2 _ h4) K.1 w.1 w.2.1 w.2.2 o1 o2 0 0 (wd_arr ho1) (wd_arr ho2) tyE0 tyE0 rfl (by decide +kernel) (by decide +kernel) (fun h => by
    have h' : Int32.ofInt k < Int32.ofInt 0 := h
    rw [cI_lt ⟨by omega, by omega⟩ inR_0] at h'; omega) (by rw [z0, zk]; omega) (by rw [z0, zk]; omega) (fun i _ => rfl) hfr hlo hdg (fun H1 locs1 hP hD hS => ?_)
  have he : (wd E g ad M).set o2 (ad o2, .inl (E.2.1, gl g o2, .inl (va_cpy (fun j : Nat => Int32.ofInt (M o1 j)) (fun j : Nat => Int32.ofInt (M o2 j)) (Int32.ofInt 0).toNatClampNeg (Int32.ofInt 0).toNatClampNeg (Int32.ofInt k).toNatClampNeg))) = wd E g ad (mcp M o1 o2 k) := by
    refine wd_set (gk_lt (by omega)) (fun o' h => mcp_ne h) ?_
    rw [ce_arr ho2, mcp_eq, z0, zk]
    congr 1
    congr 1
    congr 1
    congr 1
    funext j
    show Int32.ofInt (if 0 ≤ (j : Int) ∧ (j : Int) < k then M o1 j else M o2 j) = if 0 ≤ j ∧ j < 0 + k.toNat then Int32.ofInt (M o1 ((0 + (j - 0) : Nat) : Int)) else Int32.ofInt (M o2 j)
    by_cases hj : (j : Int) < k
    · rw [if_pos ⟨by omega, hj⟩, if_pos ⟨by omega, by omega⟩, Nat.zero_add, Nat.sub_zero]
    · rw [if_neg (by omega), if_neg (by omega)]
  rw [he] at hP hD
  exact kk _ H1 locs1 rfl ⟨hP, hD, hS⟩
end CALLS
end
section
/-! WEAKEST PRECONDITIONS of the methods over the pure memory: written by gen.py out of the bytecode -/
def rmX4_copyFrom : Room := { frames := 1, cells := 0, slots := 0, locals := 48 }
def p_X4_copyFrom (g : GG) (o0 : Nat) (o1 : Nat) (M : Mm) (Q : Mm → Prop) : Prop :=
  0 ≤ (min ((gl g (o0 + 1) : Nat) : Int) ((gl g (o1 + 1) : Nat) : Int)) ∧ (min ((gl g (o0 + 1) : Nat) : Int) ((gl g (o1 + 1) : Nat) : Int)) ≤ ((gl g (o1 + 1) : Nat) : Int) ∧ (min ((gl g (o0 + 1) : Nat) : Int) ((gl g (o1 + 1) : Nat) : Int)) ≤ ((gl g (o0 + 1) : Nat) : Int) ∧ ∀ M5 : Mm, M5 = mcp M (o1 + 1) (o0 + 1) (min ((gl g (o0 + 1) : Nat) : Int) ((gl g (o1 + 1) : Nat) : Int)) →
  Q M5
def rmX0_copyFrom : Room := { frames := 2, cells := 0, slots := 0, locals := 70 }
def p_X0_copyFrom (g : GG) (o0 : Nat) (o1 : Nat) (M : Mm) (Q : Mm → Prop) : Prop :=
  p_X4_copyFrom g (o0 + 1) (o1 + 1) M (fun M3 =>
    p_X4_copyFrom g (o0 + 3) (o1 + 3) M3 (fun M6 =>
      p_X4_copyFrom g (o0 + 5) (o1 + 5) M6 (fun M9 =>
        p_X4_copyFrom g (o0 + 7) (o1 + 7) M9 (fun M12 =>
          inR (M12 o1 5) ∧ inR (M12 o0 0) ∧ 
          ∀ M13 : Mm, M13 = mu M12 o0 5 (min (M12 o1 5) (M12 o0 0)) →
          Q M13))))
def rmX4_get : Room := { frames := 1, cells := 0, slots := 0, locals := 13 }
def p_X4_get (g : GG) (o0 : Nat) (x1 : Int) (M : Mm) (Q : Int → Mm → Prop) : Prop :=
  inR x1 ∧ (x1 < 0 →
    Q 0 M) ∧
  (0 ≤ x1 →
    inR x1 ∧ (((gl g (o0 + 1) : Nat) : Int) ≤ x1 →
      Q 0 M) ∧
    (x1 < ((gl g (o0 + 1) : Nat) : Int) →
      0 ≤ x1 ∧ x1 < ((gl g (o0 + 1) : Nat) : Int) ∧
      Q (M (o0 + 1) x1) M))
def rmX0_endOf : Room := { frames := 2, cells := 0, slots := 0, locals := 34 }
def p_X0_endOf (g : GG) (o0 : Nat) (x1 : Int) (M : Mm) (Q : Int → Mm → Prop) : Prop :=
  p_X4_get g (o0 + 1) x1 M (fun r3 M2 =>
    p_X4_get g (o0 + 7) x1 M2 (fun r6 M5 =>
      Q (r3 + r6) M5))
def rmX0_has : Room := { frames := 2, cells := 0, slots := 0, locals := 34 }
def p_X0_has_L3 (g : GG) : Nat → Nat → Int → Int → Int → Int → Mm → (Int → Mm → Prop) → Prop
  | 0, _, _, _, _, _, _, _ => False
  | n + 1, o0, x1, x2, x3, x4, M, Q =>
    inR x4 ∧ inR (M o0 5) ∧ ((M o0 5) ≤ x4 →
      Q 0 M) ∧
    (x4 < (M o0 5) →
      p_X4_get g (o0 + 3) x4 M (fun r3 M2 =>
        inR r3 ∧ inR x1 ∧ (r3 ≠ x1 →
          p_X0_has_L3 g n o0 x1 x2 x3 (x4 + 1) M2 Q) ∧
        (r3 = x1 →
          p_X4_get g (o0 + 1) x4 M2 (fun r6 M5 =>
            inR r6 ∧ inR x2 ∧ (r6 ≠ x2 →
              p_X0_has_L3 g n o0 x1 x2 x3 (x4 + 1) M5 Q) ∧
            (r6 = x2 →
              p_X4_get g (o0 + 5) x4 M5 (fun r9 M8 =>
                inR r9 ∧ inR x3 ∧ (r9 ≠ x3 →
                  p_X0_has_L3 g n o0 x1 x2 x3 (x4 + 1) M8 Q) ∧
                (r9 = x3 →
                  Q 1 M8)))))))
def p_X0_has (g : GG) (o0 : Nat) (x1 : Int) (x2 : Int) (x3 : Int) (M : Mm) (Q : Int → Mm → Prop) : Prop :=
  ∃ n10, p_X0_has_L3 g n10 o0 x1 x2 x3 0 M Q
def rmX4_put : Room := { frames := 1, cells := 0, slots := 0, locals := 13 }
def p_X4_put (g : GG) (o0 : Nat) (x1 : Int) (x2 : Int) (M : Mm) (Q : Mm → Prop) : Prop :=
  inR x1 ∧ (x1 < 0 →
    Q M) ∧
  (0 ≤ x1 →
    inR x1 ∧ (((gl g (o0 + 1) : Nat) : Int) ≤ x1 →
      Q M) ∧
    (x1 < ((gl g (o0 + 1) : Nat) : Int) →
      0 ≤ x1 ∧ x1 < ((gl g (o0 + 1) : Nat) : Int) ∧ ∀ M3 : Mm, M3 = mu M (o0 + 1) x1 x2 →
      Q M3))
def rmX0_append : Room := { frames := 2, cells := 0, slots := 0, locals := 35 }
def p_X0_append (g : GG) (o0 : Nat) (x1 : Int) (x2 : Int) (x3 : Int) (x4 : Int) (M : Mm) (Q : Mm → Prop) : Prop :=
  inR (M o0 5) ∧ inR (M o0 0) ∧ ((M o0 5) < (M o0 0) →
    p_X4_put g (o0 + 3) (M o0 5) x1 M (fun M2 =>
      p_X4_put g (o0 + 1) (M2 o0 5) x2 M2 (fun M4 =>
        p_X4_put g (o0 + 5) (M4 o0 5) x3 M4 (fun M6 =>
          p_X4_put g (o0 + 7) (M6 o0 5) x4 M6 (fun M8 =>
            ∀ M9 : Mm, M9 = mu M8 o0 5 ((M8 o0 5) + 1) →
            Q M9))))) ∧
  ((M o0 0) ≤ (M o0 5) →
    Q M)
def rmX0_order : Room := { frames := 2, cells := 0, slots := 0, locals := 34 }
def p_X0_order (g : GG) (o0 : Nat) (x1 : Int) (M : Mm) (Q : Int → Mm → Prop) : Prop :=
  p_X4_get g (o0 + 1) x1 M (fun r3 M2 =>
    p_X4_get g (o0 + 3) x1 M2 (fun r6 M5 =>
      p_X4_get g (o0 + 5) x1 M5 (fun r9 M8 =>
        Q ((((r3 * 6) + r6) * 10) + r9) M8)))
def rmX4_swap : Room := { frames := 2, cells := 0, slots := 0, locals := 35 }
def p_X4_swap (g : GG) (o0 : Nat) (x1 : Int) (x2 : Int) (M : Mm) (Q : Mm → Prop) : Prop :=
  p_X4_get g o0 x1 M (fun r2 M1 =>
    p_X4_get g o0 x2 M1 (fun r4 M3 =>
      p_X4_put g o0 x1 r4 M3 (fun M5 =>
        p_X4_put g o0 x2 r2 M5 (fun M6 =>
          Q M6))))
def rmX0_swap : Room := { frames := 3, cells := 0, slots := 0, locals := 58 }
def p_X0_swap (g : GG) (o0 : Nat) (x1 : Int) (x2 : Int) (M : Mm) (Q : Mm → Prop) : Prop :=
  p_X4_swap g (o0 + 1) x1 x2 M (fun M2 =>
    p_X4_swap g (o0 + 3) x1 x2 M2 (fun M4 =>
      p_X4_swap g (o0 + 5) x1 x2 M4 (fun M6 =>
        p_X4_swap g (o0 + 7) x1 x2 M6 (fun M8 =>
          Q M8))))
def rmX0_moveToItsPlace : Room := { frames := 4, cells := 0, slots := 0, locals := 80 }
def p_X0_moveToItsPlace_L2 (g : GG) : Nat → Nat → Int → Mm → (Mm → Prop) → Prop
  | 0, _, _, _, _ => False
  | n + 1, o0, x2, M, Q =>
    inR x2 ∧ (x2 ≤ 0 →
      Q M) ∧
    (0 < x2 →
      p_X0_order g o0 x2 M (fun r2 M1 =>
        p_X0_order g o0 (x2 - 1) M1 (fun r4 M3 =>
          inR r2 ∧ inR r4 ∧ (r4 ≤ r2 →
            Q M3) ∧
          (r2 < r4 →
            p_X0_swap g o0 (x2 - 1) x2 M3 (fun M5 =>
              p_X0_moveToItsPlace_L2 g n o0 (x2 + (-1)) M5 Q)))))
def p_X0_moveToItsPlace (g : GG) (o0 : Nat) (x1 : Int) (M : Mm) (Q : Mm → Prop) : Prop :=
  ∃ n6, p_X0_moveToItsPlace_L2 g n6 o0 x1 M Q
def rmX0_putInOrder : Room := { frames := 5, cells := 0, slots := 0, locals := 102 }
def p_X0_putInOrder_L2 (g : GG) : Nat → Nat → Int → Mm → (Mm → Prop) → Prop
  | 0, _, _, _, _ => False
  | n + 1, o0, x1, M, Q =>
    inR x1 ∧ inR (M o0 5) ∧ ((M o0 5) ≤ x1 →
      Q M) ∧
    (x1 < (M o0 5) →
      p_X0_moveToItsPlace g o0 x1 M (fun M1 =>
        p_X0_putInOrder_L2 g n o0 (x1 + 1) M1 Q))
def p_X0_putInOrder (g : GG) (o0 : Nat) (M : Mm) (Q : Mm → Prop) : Prop :=
  ∃ n2, p_X0_putInOrder_L2 g n2 o0 1 M Q
def rmX0_removeAt : Room := { frames := 4, cells := 0, slots := 0, locals := 80 }
def p_X0_removeAt_L4 (g : GG) : Nat → Nat → Int → Mm → (Mm → Prop) → Prop
  | 0, _, _, _, _ => False
  | n + 1, o0, x2, M, Q =>
    inR x2 ∧ inR (M o0 5) ∧ ((M o0 5) ≤ x2 →
      ∀ M1 : Mm, M1 = mu M o0 5 ((M o0 5) - 1) →
      Q M1) ∧
    (x2 < (M o0 5) →
      p_X0_swap g o0 (x2 - 1) x2 M (fun M2 =>
        p_X0_removeAt_L4 g n o0 (x2 + 1) M2 Q))
def p_X0_removeAt (g : GG) (o0 : Nat) (x1 : Int) (M : Mm) (Q : Mm → Prop) : Prop :=
  ∃ n3, p_X0_removeAt_L4 g n3 o0 (x1 + 1) M Q
def rmX0_removeScene : Room := { frames := 4, cells := 0, slots := 0, locals := 80 }
def p_X0_removeScene_L4 (g : GG) : Nat → Nat → Int → Int → Int → Mm → (Mm → Prop) → Prop
  | 0, _, _, _, _, _, _ => False
  | n + 1, o0, x1, x2, x3, M, Q =>
    inR x3 ∧ inR (M o0 5) ∧ ((M o0 5) ≤ x3 →
      ∀ M1 : Mm, M1 = mu M o0 5 x2 →
      Q M1) ∧
    (x3 < (M o0 5) →
      p_X4_get g (o0 + 3) x3 M (fun r4 M3 =>
        inR r4 ∧ inR x1 ∧ (r4 = x1 →
          p_X0_removeScene_L4 g n o0 x1 x2 (x3 + 1) M3 Q) ∧
        (r4 ≠ x1 →
          p_X0_swap g o0 x2 x3 M3 (fun M5 =>
            p_X0_removeScene_L4 g n o0 x1 (x2 + 1) (x3 + 1) M5 Q))))
def p_X0_removeScene (g : GG) (o0 : Nat) (x1 : Int) (M : Mm) (Q : Mm → Prop) : Prop :=
  ∃ n6, p_X0_removeScene_L4 g n6 o0 x1 0 0 M Q
def rmX7_isWithin : Room := { frames := 1, cells := 0, slots := 0, locals := 13 }
def p_X7_isWithin (g : GG) (x0 : Int) (x1 : Int) (x2 : Int) (M : Mm) (Q : Int → Mm → Prop) : Prop :=
  inR x0 ∧ inR x1 ∧ (x0 < x1 →
    Q 0 M) ∧
  (x1 ≤ x0 →
    inR x0 ∧ inR x2 ∧ (x2 < x0 →
      Q 0 M) ∧
    (x0 ≤ x2 →
      Q 1 M))
def rmX0_canMove : Room := { frames := 2, cells := 0, slots := 0, locals := 35 }
def p_X0_canMove_L2 (g : GG) : Nat → Nat → Int → Int → Int → Mm → (Int → Mm → Prop) → Prop
  | 0, _, _, _, _, _, _ => False
  | n + 1, o0, x1, x2, x3, M, Q =>
    inR x3 ∧ inR (M o0 5) ∧ ((M o0 5) ≤ x3 →
      Q 1 M) ∧
    (x3 < (M o0 5) →
      p_X4_get g (o0 + 3) x3 M (fun r3 M2 =>
        inR r3 ∧ inR x1 ∧ (r3 ≠ x1 →
          p_X0_canMove_L2 g n o0 x1 x2 (x3 + 1) M2 Q) ∧
        (r3 = x1 →
          p_X4_get g (o0 + 1) x3 M2 (fun r6 M5 =>
            p_X7_isWithin g (r6 + x2) 0 999 M5 (fun r8 M7 =>
              inR r8 ∧ (r8 ≠ 0 →
                p_X0_canMove_L2 g n o0 x1 x2 (x3 + 1) M7 Q) ∧
              (r8 = 0 →
                Q 0 M7))))))
def p_X0_canMove (g : GG) (o0 : Nat) (x1 : Int) (x2 : Int) (M : Mm) (Q : Int → Mm → Prop) : Prop :=
  ∃ n9, p_X0_canMove_L2 g n9 o0 x1 x2 0 M Q
def rmX4_increase : Room := { frames := 2, cells := 0, slots := 0, locals := 35 }
def p_X4_increase (g : GG) (o0 : Nat) (x1 : Int) (x2 : Int) (M : Mm) (Q : Mm → Prop) : Prop :=
  p_X4_get g o0 x1 M (fun r2 M1 =>
    p_X4_put g o0 x1 (r2 + x2) M1 (fun M3 =>
      Q M3))
def rmX0_moveScene : Room := { frames := 6, cells := 0, slots := 0, locals := 123 }
def p_X0_moveScene_L2 (g : GG) : Nat → Nat → Int → Int → Int → Mm → (Mm → Prop) → Prop
  | 0, _, _, _, _, _, _ => False
  | n + 1, o0, x1, x2, x3, M, Q =>
    inR x3 ∧ inR (M o0 5) ∧ ((M o0 5) ≤ x3 →
      p_X0_putInOrder g o0 M (fun M1 =>
        Q M1)) ∧
    (x3 < (M o0 5) →
      p_X4_get g (o0 + 3) x3 M (fun r4 M3 =>
        inR r4 ∧ inR x1 ∧ (r4 ≠ x1 →
          p_X0_moveScene_L2 g n o0 x1 x2 (x3 + 1) M3 Q) ∧
        (r4 = x1 →
          p_X4_increase g (o0 + 1) x3 x2 M3 (fun M6 =>
            p_X0_moveScene_L2 g n o0 x1 x2 (x3 + 1) M6 Q))))
def p_X0_moveScene (g : GG) (o0 : Nat) (x1 : Int) (x2 : Int) (M : Mm) (Q : Mm → Prop) : Prop :=
  ∃ n7, p_X0_moveScene_L2 g n7 o0 x1 x2 0 M Q
def rmX0_timesIn : Room := { frames := 2, cells := 0, slots := 0, locals := 34 }
def p_X0_timesIn_L5 (g : GG) : Nat → Nat → Nat → Int → Int → Int → Mm → (Int → Mm → Prop) → Prop
  | 0, _, _, _, _, _, _, _ => False
  | n + 1, o0, o1, x2, x3, x4, M, Q =>
    inR x4 ∧ inR (M o0 5) ∧ ((M o0 5) ≤ x4 →
      Q x3 M) ∧
    (x4 < (M o0 5) →
      p_X4_get g o1 x4 M (fun r2 M1 =>
        inR r2 ∧ inR x2 ∧ (r2 ≠ x2 →
          p_X0_timesIn_L5 g n o0 o1 x2 x3 (x4 + 1) M1 Q) ∧
        (r2 = x2 →
          p_X0_timesIn_L5 g n o0 o1 x2 (x3 + 1) (x4 + 1) M1 Q)))
def p_X0_timesIn (g : GG) (o0 : Nat) (o1 : Nat) (x2 : Int) (M : Mm) (Q : Int → Mm → Prop) : Prop :=
  ∃ n3, p_X0_timesIn_L5 g n3 o0 o1 x2 0 0 M Q
def rmX0_sizeOfScene : Room := { frames := 3, cells := 0, slots := 0, locals := 58 }
def p_X0_sizeOfScene (g : GG) (o0 : Nat) (x1 : Int) (M : Mm) (Q : Int → Mm → Prop) : Prop :=
  p_X0_timesIn g o0 (o0 + 3) x1 M (fun r3 M2 =>
    Q r3 M2)
def rmX0_sizeOfSound : Room := { frames := 3, cells := 0, slots := 0, locals := 58 }
def p_X0_sizeOfSound (g : GG) (o0 : Nat) (x1 : Int) (M : Mm) (Q : Int → Mm → Prop) : Prop :=
  p_X0_timesIn g o0 (o0 + 5) x1 M (fun r3 M2 =>
    Q r3 M2)
def rmX0_firstTick : Room := { frames := 2, cells := 0, slots := 0, locals := 34 }
def p_X0_firstTick_L2 (g : GG) : Nat → Nat → Int → Int → Mm → (Int → Mm → Prop) → Prop
  | 0, _, _, _, _, _ => False
  | n + 1, o0, x1, x2, M, Q =>
    inR x2 ∧ inR (M o0 5) ∧ ((M o0 5) ≤ x2 →
      Q (-5) M) ∧
    (x2 < (M o0 5) →
      p_X4_get g (o0 + 3) x2 M (fun r3 M2 =>
        inR r3 ∧ inR x1 ∧ (r3 ≠ x1 →
          p_X0_firstTick_L2 g n o0 x1 (x2 + 1) M2 Q) ∧
        (r3 = x1 →
          p_X4_get g (o0 + 1) x2 M2 (fun r6 M5 =>
            Q r6 M5))))
def p_X0_firstTick (g : GG) (o0 : Nat) (x1 : Int) (M : Mm) (Q : Int → Mm → Prop) : Prop :=
  ∃ n7, p_X0_firstTick_L2 g n7 o0 x1 0 M Q
def rmX0_greatestEnd : Room := { frames := 3, cells := 0, slots := 0, locals := 55 }
def p_X0_greatestEnd_L5 (g : GG) : Nat → Nat → Int → Int → Int → Mm → (Int → Mm → Prop) → Prop
  | 0, _, _, _, _, _, _ => False
  | n + 1, o0, x1, x2, x3, M, Q =>
    inR x3 ∧ inR (M o0 5) ∧ ((M o0 5) ≤ x3 →
      Q x2 M) ∧
    (x3 < (M o0 5) →
      p_X4_get g (o0 + 3) x3 M (fun r3 M2 =>
        inR r3 ∧ inR x1 ∧ (r3 ≠ x1 →
          p_X0_greatestEnd_L5 g n o0 x1 x2 (x3 + 1) M2 Q) ∧
        (r3 = x1 →
          p_X0_endOf g o0 x3 M2 (fun r5 M4 =>
            inR x2 ∧ inR r5 ∧ 
            p_X0_greatestEnd_L5 g n o0 x1 (max x2 r5) (x3 + 1) M4 Q))))
def p_X0_greatestEnd (g : GG) (o0 : Nat) (x1 : Int) (M : Mm) (Q : Int → Mm → Prop) : Prop :=
  ∃ n6, p_X0_greatestEnd_L5 g n6 o0 x1 (-5) 0 M Q
def rmX7_isBelow : Room := { frames := 1, cells := 0, slots := 0, locals := 13 }
def p_X7_isBelow (g : GG) (x0 : Int) (x1 : Int) (M : Mm) (Q : Int → Mm → Prop) : Prop :=
  inR x0 ∧ (x0 < 0 →
    Q 0 M) ∧
  (0 ≤ x0 →
    inR x0 ∧ inR x1 ∧ (x1 ≤ x0 →
      Q 0 M) ∧
    (x0 < x1 →
      Q 1 M))
def rmX6_at : Room := { frames := 2, cells := 0, slots := 0, locals := 34 }
def p_X6_at (g : GG) (o0 : Nat) (x1 : Int) (M : Mm) (Q : Int → Mm → Prop) : Prop :=
  p_X7_isBelow g x1 (M o0 1) M (fun r2 M1 =>
    inR r2 ∧ (r2 = 0 →
      Q (-1) M1) ∧
    (r2 ≠ 0 →
      p_X4_get g (o0 + 1) x1 M1 (fun r5 M4 =>
        Q r5 M4)))
def rmX1_digitAt : Room := { frames := 3, cells := 0, slots := 0, locals := 55 }
def p_X1_digitAt (g : GG) (o0 : Nat) (x1 : Int) (M : Mm) (Q : Int → Mm → Prop) : Prop :=
  p_X6_at g o0 x1 M (fun r2 M1 =>
    p_X7_isWithin g r2 48 57 M1 (fun r4 M3 =>
      inR r4 ∧ (r4 = 0 →
        Q (-5) M3) ∧
      (r4 ≠ 0 →
        Q (r2 - 48) M3)))
def rmX1_readNumber : Room := { frames := 4, cells := 0, slots := 0, locals := 77 }
def p_X1_readNumber_L53 (g : GG) : Nat → Nat → Nat → Int → Int → Mm → (Int → Mm → Prop) → Prop
  | 0, _, _, _, _, _, _ => False
  | n + 1, o0, o1, x3, x4, M, Q =>
    inR x4 ∧ (x4 ≤ 0 →
      Q x4 M) ∧
    (0 < x4 →
      inR (M o0 1) ∧ inR (M o1 1) ∧ ((M o1 1) ≤ (M o0 1) →
        Q x4 M) ∧
      ((M o0 1) < (M o1 1) →
        p_X1_digitAt g o1 (M o0 1) M (fun r8 M7 =>
          inR r8 ∧ (r8 = (-5) →
            Q x4 M7) ∧
          (r8 ≠ (-5) →
            inR ((x4 * 10) + r8) ∧ inR x3 ∧ (((x4 * 10) + r8) ≤ x3 →
              ∀ M9 : Mm, M9 = mu M7 o0 1 ((M7 o0 1) + 1) →
              p_X1_readNumber_L53 g n o0 o1 x3 ((x4 * 10) + r8) M9 Q) ∧
            (x3 < ((x4 * 10) + r8) →
              Q x4 M7)))))
def p_X1_readNumber (g : GG) (o0 : Nat) (o1 : Nat) (x2 : Int) (x3 : Int) (M : Mm) (Q : Int → Mm → Prop) : Prop :=
  inR (M o0 2) ∧ ((M o0 2) = 0 →
    p_X1_digitAt g o1 (M o0 1) M (fun r2 M1 =>
      inR r2 ∧ (r2 = (-5) →
        ∀ M3 : Mm, M3 = mu M1 o0 2 1 →
        Q 0 M3) ∧
      (r2 ≠ (-5) →
        p_X7_isWithin g r2 x2 x3 M1 (fun r5 M4 =>
          inR r5 ∧ (r5 ≠ 0 →
            ∀ M6 : Mm, M6 = mu M4 o0 1 ((M4 o0 1) + 1) →
            ∃ n10, p_X1_readNumber_L53 g n10 o0 o1 x3 r2 M6 Q) ∧
          (r5 = 0 →
            ∀ M11 : Mm, M11 = mu M4 o0 2 1 →
            Q 0 M11))))) ∧
  ((M o0 2) ≠ 0 →
    Q 0 M)
def rmX1_readSign : Room := { frames := 3, cells := 0, slots := 0, locals := 55 }
def p_X1_readSign (g : GG) (o0 : Nat) (o1 : Nat) (x2 : Int) (M : Mm) (Q : Mm → Prop) : Prop :=
  inR (M o0 2) ∧ ((M o0 2) = 0 →
    p_X6_at g o1 (M o0 1) M (fun r2 M1 =>
      inR r2 ∧ inR x2 ∧ (r2 ≠ x2 →
        ∀ M3 : Mm, M3 = mu M1 o0 2 1 →
        Q M3) ∧
      (r2 = x2 →
        ∀ M4 : Mm, M4 = mu M1 o0 1 ((M1 o0 1) + 1) →
        Q M4))) ∧
  ((M o0 2) ≠ 0 →
    Q M)
def rmX1_addDraft : Room := { frames := 3, cells := 0, slots := 0, locals := 59 }
def p_X1_addDraft (g : GG) (o0 : Nat) (x1 : Int) (x2 : Int) (x3 : Int) (x4 : Int) (M : Mm) (Q : Mm → Prop) : Prop :=
  p_X0_has g (o0 + 1) x1 x2 x3 M (fun r3 M2 =>
    inR r3 ∧ (r3 = 0 →
      p_X0_append g (o0 + 1) x1 x2 x3 x4 M2 (fun M5 =>
        Q M5)) ∧
    (r3 ≠ 0 →
      ∀ M6 : Mm, M6 = mu M2 o0 3 1 →
      Q M6))
def rmX1_readCue : Room := { frames := 5, cells := 0, slots := 0, locals := 102 }
def p_X1_readCue_J85 (g : GG) (o0 : Nat) (x2 : Int) (x3 : Int) (x4 : Int) (x5 : Int) (M : Mm) (Q : Mm → Prop) : Prop :=
  inR (M o0 2) ∧ ((M o0 2) ≠ 0 →
    Q M) ∧
  ((M o0 2) = 0 →
    p_X1_addDraft g o0 x2 x3 x4 x5 M (fun M9 =>
      Q M9))
def p_X1_readCue (g : GG) (o0 : Nat) (o1 : Nat) (M : Mm) (Q : Mm → Prop) : Prop :=
  p_X1_readNumber g o0 o1 0 5 M (fun r2 M1 =>
    p_X1_readSign g o0 o1 64 M1 (fun M3 =>
      p_X1_readNumber g o0 o1 0 999 M3 (fun r5 M4 =>
        p_X1_readSign g o0 o1 115 M4 (fun M6 =>
          p_X1_readNumber g o0 o1 0 9 M6 (fun r8 M7 =>
            inR (M7 o0 2) ∧ ((M7 o0 2) ≠ 0 →
              p_X1_readCue_J85 g o0 r2 r5 r8 1 M7 Q) ∧
            ((M7 o0 2) = 0 →
              p_X6_at g o1 (M7 o0 1) M7 (fun r11 M10 =>
                inR r11 ∧ (r11 ≠ 42 →
                  p_X1_readCue_J85 g o0 r2 r5 r8 1 M10 Q) ∧
                (r11 = 42 →
                  ∀ M12 : Mm, M12 = mu M10 o0 1 ((M10 o0 1) + 1) →
                  p_X1_readNumber g o0 o1 1 20 M12 (fun r14 M13 =>
                    p_X1_readCue_J85 g o0 r2 r5 r8 r14 M13 Q)))))))))
def rmX1_readBehind : Room := { frames := 6, cells := 0, slots := 0, locals := 127 }
def p_X1_readBehind_J72 (g : GG) (o0 : Nat) (M : Mm) (Q : Mm → Prop) : Prop :=
  p_X0_putInOrder g (o0 + 1) M (fun M8 =>
    Q M8)
def p_X1_readBehind_L30 (g : GG) : Nat → Nat → Nat → Int → Mm → (Mm → Prop) → Prop
  | 0, _, _, _, _, _ => False
  | n + 1, o0, o2, x3, M, Q =>
    inR x3 ∧ (60 ≤ x3 →
      p_X1_readBehind_J72 g o0 M Q) ∧
    (x3 < 60 →
      inR (M o0 2) ∧ ((M o0 2) ≠ 0 →
        p_X1_readBehind_J72 g o0 M Q) ∧
      ((M o0 2) = 0 →
        inR (M o0 1) ∧ inR (M o2 1) ∧ ((M o2 1) ≤ (M o0 1) →
          p_X1_readBehind_J72 g o0 M Q) ∧
        ((M o0 1) < (M o2 1) →
          p_X1_readSign g o0 o2 44 M (fun M9 =>
            p_X1_readCue g o0 o2 M9 (fun M10 =>
              p_X1_readBehind_L30 g n o0 o2 (x3 + 1) M10 Q)))))
def p_X1_readBehind (g : GG) (o0 : Nat) (o1 : Nat) (o2 : Nat) (M : Mm) (Q : Mm → Prop) : Prop :=
  p_X0_copyFrom g (o0 + 1) o1 M (fun M2 =>
    ∀ M3 : Mm, M3 = mu M2 o0 1 0 →
    ∀ M4 : Mm, M4 = mu M3 o0 2 0 →
    ∀ M5 : Mm, M5 = mu M4 o0 3 0 →
    p_X1_readCue g o0 o2 M5 (fun M6 =>
      ∃ n11, p_X1_readBehind_L30 g n11 o0 o2 1 M6 Q))
def rmX2_dropOldest : Room := { frames := 1, cells := 0, slots := 0, locals := 13 }
def p_X2_dropOldest_L2 (g : GG) : Nat → Nat → Int → Mm → (Mm → Prop) → Prop
  | 0, _, _, _, _ => False
  | n + 1, o0, x1, M, Q =>
    inR x1 ∧ (((gl g (o0 + 1) : Nat) : Int) ≤ x1 →
      ∀ M2 : Mm, M2 = mu M o0 1 ((M o0 1) - 1) →
      Q M2) ∧
    (x1 < ((gl g (o0 + 1) : Nat) : Int) →
      0 ≤ (x1 - 1) ∧ (x1 - 1) < ((gl g (o0 + 1) : Nat) : Int) ∧ gk g (M (o0 + 1) (x1 - 1)).toNat = 5 ∧
      0 ≤ x1 ∧ x1 < ((gl g (o0 + 1) : Nat) : Int) ∧ gk g (M (o0 + 1) x1).toNat = 5 ∧
      0 ≤ (x1 - 1) ∧ (x1 - 1) < ((gl g (o0 + 1) : Nat) : Int) ∧ ∀ M8 : Mm, M8 = mu M (o0 + 1) (x1 - 1) ((((M (o0 + 1) x1).toNat) : Nat) : Int) →
      0 ≤ x1 ∧ x1 < ((gl g (o0 + 1) : Nat) : Int) ∧ ∀ M10 : Mm, M10 = mu M8 (o0 + 1) x1 ((((M (o0 + 1) (x1 - 1)).toNat) : Nat) : Int) →
      p_X2_dropOldest_L2 g n o0 (x1 + 1) M10 Q)
def p_X2_dropOldest (g : GG) (o0 : Nat) (M : Mm) (Q : Mm → Prop) : Prop :=
  ∃ n11, p_X2_dropOldest_L2 g n11 o0 1 M Q
def rmX2_at : Room := { frames := 1, cells := 0, slots := 0, locals := 13 }
def p_X2_at (g : GG) (o0 : Nat) (x1 : Int) (M : Mm) (Q : Option Nat → Mm → Prop) : Prop :=
  inR x1 ∧ (x1 < 0 →
    Q none M) ∧
  (0 ≤ x1 →
    inR x1 ∧ (((gl g (o0 + 1) : Nat) : Int) ≤ x1 →
      Q none M) ∧
    (x1 < ((gl g (o0 + 1) : Nat) : Int) →
      0 ≤ x1 ∧ x1 < ((gl g (o0 + 1) : Nat) : Int) ∧ gk g (M (o0 + 1) x1).toNat = 5 ∧
      Q (some ((M (o0 + 1) x1).toNat)) M))
def rmX5_copyFrom : Room := { frames := 3, cells := 0, slots := 0, locals := 91 }
def p_X5_copyFrom (g : GG) (o0 : Nat) (o1 : Nat) (M : Mm) (Q : Mm → Prop) : Prop :=
  p_X4_copyFrom g (o0 + 1) (o1 + 1) M (fun M3 =>
    p_X4_copyFrom g (o0 + 3) (o1 + 3) M3 (fun M6 =>
      p_X4_copyFrom g (o0 + 5) (o1 + 5) M6 (fun M9 =>
        p_X4_copyFrom g (o0 + 7) (o1 + 7) M9 (fun M12 =>
          p_X0_copyFrom g (o0 + 9) (o1 + 9) M12 (fun M15 =>
            ∀ M16 : Mm, M16 = mu M15 o0 5 (M15 o1 5) →
            ∀ M17 : Mm, M17 = mu M16 o0 6 (M16 o1 6) →
            ∀ M18 : Mm, M18 = mu M17 o0 7 (M17 o1 7) →
            ∀ M19 : Mm, M19 = mu M18 o0 8 (M18 o1 8) →
            ∀ M20 : Mm, M20 = mu M19 o0 9 (M19 o1 9) →
            ∀ M21 : Mm, M21 = mu M20 o0 10 (M20 o1 10) →
            Q M21)))))
def rmX2_record : Room := { frames := 4, cells := 0, slots := 0, locals := 112 }
def p_X2_record_J16 (g : GG) (o0 : Nat) (o1 : Nat) (M : Mm) (Q : Mm → Prop) : Prop :=
  p_X2_at g o0 (M o0 1) M (fun v_o M2 => (v_o = none →
      Q M2) ∧
    (∀ o3, v_o = some o3 → gk g o3 = 5 →
      p_X5_copyFrom g o3 o1 M2 (fun M5 =>
        ∀ M6 : Mm, M6 = mu M5 o0 1 ((M5 o0 1) + 1) →
        Q M6)))
def p_X2_record (g : GG) (o0 : Nat) (o1 : Nat) (M : Mm) (Q : Mm → Prop) : Prop :=
  inR (M o0 1) ∧ ((M o0 1) < ((gl g (o0 + 1) : Nat) : Int) →
    p_X2_record_J16 g o0 o1 M Q) ∧
  (((gl g (o0 + 1) : Nat) : Int) ≤ (M o0 1) →
    p_X2_dropOldest g o0 M (fun M7 =>
      p_X2_record_J16 g o0 o1 M7 Q))
def rmX2_moveLatestTo : Room := { frames := 4, cells := 0, slots := 0, locals := 112 }
def p_X2_moveLatestTo (g : GG) (o0 : Nat) (o1 : Nat) (M : Mm) (Q : Mm → Prop) : Prop :=
  p_X2_at g o0 ((M o0 1) - 1) M (fun v_o M1 => (v_o = none →
      Q M1) ∧
    (∀ o2, v_o = some o2 → gk g o2 = 5 →
      p_X5_copyFrom g o1 o2 M1 (fun M4 =>
        ∀ M5 : Mm, M5 = mu M4 o0 1 ((M4 o0 1) - 1) →
        Q M5)))
def rmX3_begin : Room := { frames := 2, cells := 0, slots := 0, locals := 70 }
def p_X3_begin_L18 (g : GG) : Nat → Nat → Nat → Int → Mm → (Mm → Prop) → Prop
  | 0, _, _, _, _, _ => False
  | n + 1, o0, o1, x3, M, Q =>
    inR x3 ∧ (4 ≤ x3 →
      Q M) ∧
    (x3 < 4 →
      inR x3 ∧ inR (M o1 5) ∧ (x3 < (M o1 5) →
        (0 = 0 →
          p_X4_get g (o1 + 7) x3 M (fun r8 M7 =>
            p_X4_put g (o0 + 7) x3 r8 M7 (fun M9 =>
              p_X3_begin_L18 g n o0 o1 (x3 + 1) M9 Q))) ∧
        (0 ≠ 0 →
          p_X4_put g (o0 + 7) x3 x3 M (fun M10 =>
            p_X3_begin_L18 g n o0 o1 (x3 + 1) M10 Q))) ∧
      ((M o1 5) ≤ x3 →
        (1 = 0 →
          p_X4_get g (o1 + 7) x3 M (fun r14 M13 =>
            p_X4_put g (o0 + 7) x3 r14 M13 (fun M15 =>
              p_X3_begin_L18 g n o0 o1 (x3 + 1) M15 Q))) ∧
        (1 ≠ 0 →
          p_X4_put g (o0 + 7) x3 x3 M (fun M16 =>
            p_X3_begin_L18 g n o0 o1 (x3 + 1) M16 Q))))
def p_X3_begin (g : GG) (o0 : Nat) (o1 : Nat) (x2 : Int) (M : Mm) (Q : Mm → Prop) : Prop :=
  ∀ M1 : Mm, M1 = mu M o0 12 x2 →
  p_X4_copyFrom g (o0 + 1) (o1 + 3) M1 (fun M4 =>
    ∃ n17, p_X3_begin_L18 g n17 o0 o1 0 M4 Q)
def rmX4_fill : Room := { frames := 1, cells := 0, slots := 0, locals := 13 }
def p_X4_fill_L2 (g : GG) : Nat → Nat → Int → Int → Mm → (Mm → Prop) → Prop
  | 0, _, _, _, _, _ => False
  | n + 1, o0, x1, x2, M, Q =>
    inR x2 ∧ (((gl g (o0 + 1) : Nat) : Int) ≤ x2 →
      Q M) ∧
    (x2 < ((gl g (o0 + 1) : Nat) : Int) →
      0 ≤ x2 ∧ x2 < ((gl g (o0 + 1) : Nat) : Int) ∧ ∀ M3 : Mm, M3 = mu M (o0 + 1) x2 x1 →
      p_X4_fill_L2 g n o0 x1 (x2 + 1) M3 Q)
def p_X4_fill (g : GG) (o0 : Nat) (x1 : Int) (M : Mm) (Q : Mm → Prop) : Prop :=
  ∃ n4, p_X4_fill_L2 g n4 o0 x1 0 M Q
def rmX3_wayTo : Room := { frames := 2, cells := 0, slots := 0, locals := 48 }
def p_X3_wayTo (g : GG) (o0 : Nat) (x1 : Int) (x2 : Int) (M : Mm) (Q : Int → Mm → Prop) : Prop :=
  p_X4_get g (o0 + 7) x2 M (fun r3 M2 =>
    inR (x1 - r3) ∧ 
    Q (if 0 ≤ (x1 - r3) then (x1 - r3) else 0 - (x1 - r3)) M2)
def rmX3_nearestHand : Room := { frames := 3, cells := 0, slots := 0, locals := 70 }
def p_X3_nearestHand_L9 (g : GG) : Nat → Nat → Int → Int → Int → Int → Int → Mm → (Int → Mm → Prop) → Prop
  | 0, _, _, _, _, _, _, _, _ => False
  | n + 1, o0, x1, x2, x3, x4, x5, M, Q =>
    inR x5 ∧ inR (M o0 12) ∧ ((M o0 12) ≤ x5 →
      Q x3 M) ∧
    (x5 < (M o0 12) →
      p_X3_wayTo g o0 x1 x5 M (fun r2 M1 =>
        inR r2 ∧ inR x4 ∧ (x4 ≤ r2 →
          p_X3_nearestHand_L9 g n o0 x1 x2 x3 x4 (x5 + 1) M1 Q) ∧
        (r2 < x4 →
          p_X4_get g (o0 + 9) x5 M1 (fun r5 M4 =>
            inR (x2 - r5) ∧ inR r2 ∧ ((x2 - r5) < r2 →
              p_X3_nearestHand_L9 g n o0 x1 x2 x3 x4 (x5 + 1) M4 Q) ∧
            (r2 ≤ (x2 - r5) →
              p_X3_nearestHand_L9 g n o0 x1 x2 x5 r2 (x5 + 1) M4 Q)))))
def p_X3_nearestHand (g : GG) (o0 : Nat) (x1 : Int) (x2 : Int) (M : Mm) (Q : Int → Mm → Prop) : Prop :=
  ∃ n6, p_X3_nearestHand_L9 g n6 o0 x1 x2 (-5) 5 0 M Q
def rmX3_isLent : Room := { frames := 2, cells := 0, slots := 0, locals := 34 }
def p_X3_isLent (g : GG) (o0 : Nat) (x1 : Int) (x2 : Int) (M : Mm) (Q : Int → Mm → Prop) : Prop :=
  p_X4_get g (o0 + 3) x1 M (fun r3 M2 =>
    inR r3 ∧ (r3 = (-1) →
      Q 0 M2) ∧
    (r3 ≠ (-1) →
      inR r3 ∧ inR x2 ∧ (r3 = x2 →
        Q 0 M2) ∧
      (r3 ≠ x2 →
        Q 1 M2)))
def rmX3_reasonToMiss : Room := { frames := 3, cells := 0, slots := 0, locals := 57 }
def p_X3_reasonToMiss_J78 (g : GG) (x3 : Int) (x5 : Int) (y0 : Int) (M : Mm) (Q : Int → Mm → Prop) : Prop :=
  inR x5 ∧ inR y0 ∧ (y0 ≤ x5 →
    inR x3 ∧ (x3 ≠ (-5) →
      Q 0 M) ∧
    (x3 = (-5) →
      Q 3 M)) ∧
  (x5 < y0 →
    Q 2 M)
def p_X3_reasonToMiss (g : GG) (o0 : Nat) (x1 : Int) (o2 : Nat) (x3 : Int) (M : Mm) (Q : Int → Mm → Prop) : Prop :=
  p_X4_get g ((o2 + 9) + 5) x1 M (fun r4 M3 =>
    p_X4_get g (o0 + 1) r4 M3 (fun r7 M6 =>
      inR r7 ∧ (0 < r7 →
        p_X4_get g ((o2 + 9) + 1) x1 M6 (fun r11 M10 =>
          p_X4_get g (o0 + 5) r4 M10 (fun r14 M13 =>
            p_X4_get g ((o2 + 9) + 3) x1 M13 (fun r18 M17 =>
              p_X3_isLent g o0 r4 r18 M17 (fun r20 M19 =>
                inR r20 ∧ (r20 = 0 →
                  p_X3_reasonToMiss_J78 g x3 (r11 - r14) 0 M19 Q) ∧
                (r20 ≠ 0 →
                  p_X3_reasonToMiss_J78 g x3 (r11 - r14) (M19 o2 6) M19 Q)))))) ∧
      (r7 ≤ 0 →
        Q 1 M6)))
def rmX3_play : Room := { frames := 3, cells := 0, slots := 0, locals := 70 }
def p_X3_play_J50 (g : GG) (o0 : Nat) (x1 : Int) (o2 : Nat) (x3 : Int) (x4 : Int) (x5 : Int) (x6 : Int) (x7 : Int) (M : Mm) (Q : Mm → Prop) : Prop :=
  p_X4_put g (o0 + 15) x1 x3 M (fun M12 =>
    p_X4_put g (o0 + 19) x1 x7 M12 (fun M14 =>
      p_X4_increase g (o0 + 11) x3 1 M14 (fun M16 =>
        p_X4_increase g (o0 + 13) x3 x7 M16 (fun M18 =>
          p_X4_put g (o0 + 7) x3 x4 M18 (fun M20 =>
            p_X0_endOf g o2 x1 M20 (fun r23 M22 =>
              p_X4_put g (o0 + 9) x3 r23 M22 (fun M24 =>
                p_X4_increase g (o0 + 1) x6 (-1) M24 (fun M26 =>
                  p_X4_put g (o0 + 3) x6 x5 M26 (fun M28 =>
                    p_X0_endOf g o2 x1 M28 (fun r31 M30 =>
                      p_X4_put g (o0 + 5) x6 r31 M30 (fun M32 =>
                        Q M32)))))))))))
def p_X3_play (g : GG) (o0 : Nat) (x1 : Int) (o2 : Nat) (x3 : Int) (x4 : Int) (M : Mm) (Q : Mm → Prop) : Prop :=
  p_X4_get g (o2 + 3) x1 M (fun r3 M2 =>
    p_X4_get g (o2 + 5) x1 M2 (fun r6 M5 =>
      p_X3_wayTo g o0 x4 x3 M5 (fun r8 M7 =>
        p_X3_isLent g o0 r6 r3 M7 (fun r10 M9 =>
          inR r10 ∧ (r10 = 0 →
            p_X3_play_J50 g o0 x1 o2 x3 x4 r3 r6 r8 M9 Q) ∧
          (r10 ≠ 0 →
            p_X4_increase g (o0 + 23) r3 1 M9 (fun M34 =>
              p_X3_play_J50 g o0 x1 o2 x3 x4 r3 r6 r8 M34 Q))))))
def rmX3_miss : Room := { frames := 3, cells := 0, slots := 0, locals := 57 }
def p_X3_miss (g : GG) (o0 : Nat) (x1 : Int) (o2 : Nat) (M : Mm) (Q : Mm → Prop) : Prop :=
  p_X4_put g (o0 + 15) x1 (-5) M (fun M2 =>
    p_X4_put g (o0 + 19) x1 (-5) M2 (fun M4 =>
      p_X4_get g ((o2 + 9) + 3) x1 M4 (fun r9 M8 =>
        p_X4_increase g (o0 + 21) r9 1 M8 (fun M10 =>
          ∀ M11 : Mm, M11 = mu M10 o0 13 ((M10 o0 13) + 1) →
          p_X4_get g ((o2 + 9) + 5) x1 M11 (fun r16 M15 =>
            p_X4_get g (o2 + 5) r16 M15 (fun r18 M17 =>
              ∀ M19 : Mm, M19 = mu M17 o0 14 ((M11 o0 14) + r18) →
              Q M19))))))
def rmX3_doCue : Room := { frames := 4, cells := 0, slots := 0, locals := 97 }
def p_X3_doCue (g : GG) (o0 : Nat) (x1 : Int) (o2 : Nat) (M : Mm) (Q : Mm → Prop) : Prop :=
  p_X4_get g ((o2 + 9) + 5) x1 M (fun r5 M4 =>
    p_X4_get g (o2 + 1) r5 M4 (fun r7 M6 =>
      p_X4_get g ((o2 + 9) + 1) x1 M6 (fun r11 M10 =>
        p_X3_nearestHand g o0 r7 r11 M10 (fun r13 M12 =>
          p_X3_reasonToMiss g o0 x1 o2 r13 M12 (fun r15 M14 =>
            p_X4_put g (o0 + 17) x1 r15 M14 (fun M17 =>
              inR r15 ∧ (r15 ≠ 0 →
                p_X3_miss g o0 x1 o2 M17 (fun M18 =>
                  Q M18)) ∧
              (r15 = 0 →
                p_X3_play g o0 x1 (o2 + 9) r13 r7 M17 (fun M20 =>
                  Q M20))))))))
def rmX3_playTake : Room := { frames := 5, cells := 0, slots := 0, locals := 122 }
def p_X3_playTake_L68 (g : GG) : Nat → Nat → Nat → Int → Mm → (Mm → Prop) → Prop
  | 0, _, _, _, _, _ => False
  | n + 1, o0, o1, x2, M, Q =>
    inR x2 ∧ inR (M (o1 + 9) 5) ∧ ((M (o1 + 9) 5) ≤ x2 →
      Q M) ∧
    (x2 < (M (o1 + 9) 5) →
      p_X3_doCue g o0 x2 o1 M (fun M18 =>
        p_X3_playTake_L68 g n o0 o1 (x2 + 1) M18 Q))
def p_X3_playTake (g : GG) (o0 : Nat) (o1 : Nat) (M : Mm) (Q : Mm → Prop) : Prop :=
  p_X4_fill g (o0 + 3) (-1) M (fun M2 =>
    p_X4_fill g (o0 + 5) 0 M2 (fun M4 =>
      p_X4_fill g (o0 + 9) 0 M4 (fun M6 =>
        p_X4_fill g (o0 + 11) 0 M6 (fun M8 =>
          p_X4_fill g (o0 + 13) 0 M8 (fun M10 =>
            p_X4_fill g (o0 + 21) 0 M10 (fun M12 =>
              p_X4_fill g (o0 + 23) 0 M12 (fun M14 =>
                ∀ M15 : Mm, M15 = mu M14 o0 13 0 →
                ∀ M16 : Mm, M16 = mu M15 o0 14 0 →
                ∃ n19, p_X3_playTake_L68 g n19 o0 o1 0 M16 Q)))))))
def rmX3_playsOfSound : Room := { frames := 2, cells := 0, slots := 0, locals := 34 }
def p_X3_playsOfSound_L5 (g : GG) : Nat → Nat → Int → Nat → Int → Int → Mm → (Int → Mm → Prop) → Prop
  | 0, _, _, _, _, _, _, _ => False
  | n + 1, o0, x1, o2, x3, x4, M, Q =>
    inR x4 ∧ inR (M o2 5) ∧ ((M o2 5) ≤ x4 →
      Q x3 M) ∧
    (x4 < (M o2 5) →
      p_X4_get g (o2 + 5) x4 M (fun r3 M2 =>
        inR r3 ∧ inR x1 ∧ (r3 ≠ x1 →
          p_X3_playsOfSound_L5 g n o0 x1 o2 x3 (x4 + 1) M2 Q) ∧
        (r3 = x1 →
          p_X4_get g (o0 + 17) x4 M2 (fun r6 M5 =>
            inR r6 ∧ (r6 ≠ 0 →
              p_X3_playsOfSound_L5 g n o0 x1 o2 x3 (x4 + 1) M5 Q) ∧
            (r6 = 0 →
              p_X3_playsOfSound_L5 g n o0 x1 o2 (x3 + 1) (x4 + 1) M5 Q)))))
def p_X3_playsOfSound (g : GG) (o0 : Nat) (x1 : Int) (o2 : Nat) (M : Mm) (Q : Int → Mm → Prop) : Prop :=
  ∃ n7, p_X3_playsOfSound_L5 g n7 o0 x1 o2 0 0 M Q
def rmX3_missedCue : Room := { frames := 2, cells := 0, slots := 0, locals := 34 }
def p_X3_missedCue_L5 (g : GG) : Nat → Nat → Int → Int → Int → Int → Mm → (Int → Mm → Prop) → Prop
  | 0, _, _, _, _, _, _, _ => False
  | n + 1, o0, x1, x2, x3, x4, M, Q =>
    inR x4 ∧ inR x2 ∧ (x2 ≤ x4 →
      Q (-5) M) ∧
    (x4 < x2 →
      p_X4_get g (o0 + 17) x4 M (fun r3 M2 =>
        inR r3 ∧ (r3 = 0 →
          p_X3_missedCue_L5 g n o0 x1 x2 x3 (x4 + 1) M2 Q) ∧
        (r3 ≠ 0 →
          inR x3 ∧ inR x1 ∧ (x3 ≠ x1 →
            p_X3_missedCue_L5 g n o0 x1 x2 (x3 + 1) (x4 + 1) M2 Q) ∧
          (x3 = x1 →
            Q x4 M2))))
def p_X3_missedCue (g : GG) (o0 : Nat) (x1 : Int) (x2 : Int) (M : Mm) (Q : Int → Mm → Prop) : Prop :=
  ∃ n4, p_X3_missedCue_L5 g n4 o0 x1 x2 0 0 M Q
def rmX4_sum : Room := { frames := 1, cells := 0, slots := 0, locals := 13 }
def p_X4_sum_L4 (g : GG) : Nat → Nat → Int → Int → Mm → (Int → Mm → Prop) → Prop
  | 0, _, _, _, _, _ => False
  | n + 1, o0, x1, x2, M, Q =>
    inR x2 ∧ (((gl g (o0 + 1) : Nat) : Int) ≤ x2 →
      Q x1 M) ∧
    (x2 < ((gl g (o0 + 1) : Nat) : Int) →
      0 ≤ x2 ∧ x2 < ((gl g (o0 + 1) : Nat) : Int) ∧
      p_X4_sum_L4 g n o0 (x1 + (M (o0 + 1) x2)) (x2 + 1) M Q)
def p_X4_sum (g : GG) (o0 : Nat) (M : Mm) (Q : Int → Mm → Prop) : Prop :=
  ∃ n3, p_X4_sum_L4 g n3 o0 0 0 M Q
def rmX5_soundRow : Room := { frames := 1, cells := 0, slots := 0, locals := 13 }
def p_X5_soundRow (g : GG) (o0 : Nat) (x1 : Int) (M : Mm) (Q : Nat → Mm → Prop) : Prop :=
  inR x1 ∧
  (x1 = 0 →
    Q (o0 + 1) M) ∧
  (x1 = 1 →
    Q (o0 + 3) M) ∧
  (x1 ≠ 0 ∧ x1 ≠ 1 →
    Q (o0 + 5) M)
def rmX6_append : Room := { frames := 2, cells := 0, slots := 0, locals := 35 }
def p_X6_append (g : GG) (o0 : Nat) (x1 : Int) (M : Mm) (Q : Mm → Prop) : Prop :=
  inR (M o0 1) ∧ (60 ≤ (M o0 1) →
    Q M) ∧
  ((M o0 1) < 60 →
    p_X4_put g (o0 + 1) (M o0 1) x1 M (fun M2 =>
      ∀ M3 : Mm, M3 = mu M2 o0 1 ((M2 o0 1) + 1) →
      Q M3))
def rmX7_isSoundValue : Room := { frames := 2, cells := 0, slots := 0, locals := 35 }
def p_X7_isSoundValue (g : GG) (x0 : Int) (x1 : Int) (M : Mm) (Q : Int → Mm → Prop) : Prop :=
  inR x0 ∧
  (x0 = 0 →
    p_X7_isBelow g x1 5 M (fun r2 M1 =>
      (r2 = 0 ∨ r2 = 1) ∧ Q r2 M1)) ∧
  (x0 = 1 →
    p_X7_isWithin g x1 0 30 M (fun r4 M3 =>
      (r4 = 0 ∨ r4 = 1) ∧ Q r4 M3)) ∧
  (x0 = 2 →
    p_X7_isWithin g x1 1 9 M (fun r6 M5 =>
      (r6 = 0 ∨ r6 = 1) ∧ Q r6 M5)) ∧
  ((x0 < 0 ∨ 2 < x0) →
    Q 0 M)
def rmX7_setSound : Room := { frames := 5, cells := 0, slots := 0, locals := 134 }
def p_X7_setSound (g : GG) (o0 : Nat) (x1 : Int) (x2 : Int) (x3 : Int) (M : Mm) (Q : Int → Mm → Prop) : Prop :=
  p_X7_isBelow g x1 10 M (fun r2 M1 =>
    inR r2 ∧ (r2 ≠ 0 →
      p_X7_isSoundValue g x2 x3 M1 (fun r4 M3 =>
        inR r4 ∧ (r4 ≠ 0 →
          p_X5_soundRow g (o0 + 1) x2 M3 (fun o7 M6 => gk g o7 = 4 →
            p_X4_get g o7 x1 M6 (fun r10 M9 =>
              inR r10 ∧ inR x3 ∧ (r10 ≠ x3 →
                p_X2_record g (o0 + 37) (o0 + 1) M9 (fun M13 =>
                  p_X4_put g o7 x1 x3 M13 (fun M14 =>
                    Q r10 M14))) ∧
              (r10 = x3 →
                Q (-5) M9)))) ∧
        (r4 = 0 →
          Q (-2) M3))) ∧
    (r2 = 0 →
      Q (-1) M1))
def rmX7_setHands : Room := { frames := 5, cells := 0, slots := 0, locals := 134 }
def p_X7_setHands_L41 (g : GG) : Nat → Nat → Int → Int → Int → Mm → (Int → Mm → Prop) → Prop
  | 0, _, _, _, _, _, _ => False
  | n + 1, o0, x1, x2, x3, M, Q =>
    inR x3 ∧ inR x1 ∧ (x1 ≤ x3 →
      ∀ M8 : Mm, M8 = mu M (o0 + 1) 5 x1 →
      Q x2 M8) ∧
    (x3 < x1 →
      p_X4_put g ((o0 + 1) + 7) x3 x3 M (fun M11 =>
        p_X7_setHands_L41 g n o0 x1 x2 (x3 + 1) M11 Q))
def p_X7_setHands (g : GG) (o0 : Nat) (x1 : Int) (M : Mm) (Q : Int → Mm → Prop) : Prop :=
  p_X7_isWithin g x1 1 4 M (fun r2 M1 =>
    inR r2 ∧ (r2 ≠ 0 →
      inR (M1 (o0 + 1) 5) ∧ inR x1 ∧ ((M1 (o0 + 1) 5) ≠ x1 →
        p_X2_record g (o0 + 37) (o0 + 1) M1 (fun M6 =>
          ∃ n12, p_X7_setHands_L41 g n12 o0 x1 (M1 (o0 + 1) 5) (M1 (o0 + 1) 5) M6 Q)) ∧
      ((M1 (o0 + 1) 5) = x1 →
        Q (-5) M1)) ∧
    (r2 = 0 →
      Q (-2) M1))
def rmX7_send : Room := { frames := 5, cells := 0, slots := 0, locals := 134 }
def p_X7_send (g : GG) (o0 : Nat) (x1 : Int) (x2 : Int) (M : Mm) (Q : Int → Mm → Prop) : Prop :=
  p_X7_isBelow g x1 (M (o0 + 1) 5) M (fun r3 M2 =>
    inR r3 ∧ (r3 = 0 →
      Q (-1) M2) ∧
    (r3 ≠ 0 →
      p_X7_isBelow g x2 5 M2 (fun r5 M4 =>
        inR r5 ∧ (r5 ≠ 0 →
          p_X4_get g ((o0 + 1) + 7) x1 M4 (fun r9 M8 =>
            inR r9 ∧ inR x2 ∧ (r9 ≠ x2 →
              p_X2_record g (o0 + 37) (o0 + 1) M8 (fun M12 =>
                p_X4_put g ((o0 + 1) + 7) x1 x2 M12 (fun M15 =>
                  Q r9 M15))) ∧
            (r9 = x2 →
              Q (-5) M8))) ∧
        (r5 = 0 →
          Q (-1) M4))))
def rmX7_setCarrying : Room := { frames := 5, cells := 0, slots := 0, locals := 134 }
def p_X7_setCarrying (g : GG) (o0 : Nat) (x1 : Int) (M : Mm) (Q : Int → Mm → Prop) : Prop :=
  p_X7_isWithin g x1 0 20 M (fun r2 M1 =>
    inR r2 ∧ (r2 ≠ 0 →
      inR (M1 (o0 + 1) 6) ∧ inR x1 ∧ ((M1 (o0 + 1) 6) ≠ x1 →
        p_X2_record g (o0 + 37) (o0 + 1) M1 (fun M6 =>
          ∀ M8 : Mm, M8 = mu M6 (o0 + 1) 6 x1 →
          Q (M1 (o0 + 1) 6) M8)) ∧
      ((M1 (o0 + 1) 6) = x1 →
        Q (-5) M1)) ∧
    (r2 = 0 →
      Q (-2) M1))
def rmX7_readCues : Room := { frames := 7, cells := 0, slots := 0, locals := 150 }
def p_X7_readCues (g : GG) (o0 : Nat) (M : Mm) (Q : Int → Mm → Prop) : Prop :=
  p_X1_readBehind g (o0 + 114) ((o0 + 1) + 9) (o0 + 111) M (fun M5 =>
    inR (M5 (o0 + 114) 2) ∧ ((M5 (o0 + 114) 2) = 0 →
      inR (M5 (o0 + 114) 3) ∧ ((M5 (o0 + 114) 3) = 0 →
        inR (M5 ((o0 + 114) + 1) 5) ∧ ((M5 ((o0 + 114) + 1) 5) ≤ 40 →
          p_X2_record g (o0 + 37) (o0 + 1) M5 (fun M12 =>
            p_X0_copyFrom g ((o0 + 1) + 9) ((o0 + 114) + 1) M12 (fun M17 =>
              Q (M17 ((o0 + 1) + 9) 5) M17))) ∧
        (40 < (M5 ((o0 + 114) + 1) 5) →
          Q (-3) M5)) ∧
      ((M5 (o0 + 114) 3) ≠ 0 →
        Q (-4) M5)) ∧
    ((M5 (o0 + 114) 2) ≠ 0 →
      Q ((-100) - (M5 (o0 + 114) 1)) M5))
def rmX7_removeCue : Room := { frames := 5, cells := 0, slots := 0, locals := 134 }
def p_X7_removeCue (g : GG) (o0 : Nat) (x1 : Int) (M : Mm) (Q : Int → Mm → Prop) : Prop :=
  p_X7_isBelow g x1 (M ((o0 + 1) + 9) 5) M (fun r4 M3 =>
    inR r4 ∧ (r4 ≠ 0 →
      p_X2_record g (o0 + 37) (o0 + 1) M3 (fun M7 =>
        p_X0_removeAt g ((o0 + 1) + 9) x1 M7 (fun M10 =>
          Q (M10 ((o0 + 1) + 9) 5) M10))) ∧
    (r4 = 0 →
      Q (-1) M3))
def rmX7_shift : Room := { frames := 7, cells := 0, slots := 0, locals := 146 }
def p_X7_shift (g : GG) (o0 : Nat) (x1 : Int) (x2 : Int) (M : Mm) (Q : Int → Mm → Prop) : Prop :=
  p_X7_isBelow g x1 6 M (fun r2 M1 =>
    inR r2 ∧ (r2 ≠ 0 →
      p_X7_isWithin g x2 (-99) 99 M1 (fun r4 M3 =>
        inR r4 ∧ (r4 ≠ 0 →
          p_X0_canMove g ((o0 + 1) + 9) x1 x2 M3 (fun r8 M7 =>
            inR r8 ∧ (r8 ≠ 0 →
              p_X0_sizeOfScene g ((o0 + 1) + 9) x1 M7 (fun r12 M11 =>
                inR x2 ∧ (x2 = 0 →
                  Q (-5) M11) ∧
                (x2 ≠ 0 →
                  inR r12 ∧ (r12 ≠ 0 →
                    p_X2_record g (o0 + 37) (o0 + 1) M11 (fun M15 =>
                      p_X0_moveScene g ((o0 + 1) + 9) x1 x2 M15 (fun M18 =>
                        Q r12 M18))) ∧
                  (r12 = 0 →
                    Q (-5) M11)))) ∧
            (r8 = 0 →
              Q (-4) M7))) ∧
        (r4 = 0 →
          Q (-2) M3))) ∧
    (r2 = 0 →
      Q (-1) M1))
def rmX7_cutScene : Room := { frames := 5, cells := 0, slots := 0, locals := 134 }
def p_X7_cutScene (g : GG) (o0 : Nat) (x1 : Int) (M : Mm) (Q : Int → Mm → Prop) : Prop :=
  p_X7_isBelow g x1 6 M (fun r2 M1 =>
    inR r2 ∧ (r2 ≠ 0 →
      p_X0_sizeOfScene g ((o0 + 1) + 9) x1 M1 (fun r6 M5 =>
        inR r6 ∧ (r6 ≠ 0 →
          p_X2_record g (o0 + 37) (o0 + 1) M5 (fun M9 =>
            p_X0_removeScene g ((o0 + 1) + 9) x1 M9 (fun M12 =>
              Q r6 M12))) ∧
        (r6 = 0 →
          Q (-5) M5))) ∧
    (r2 = 0 →
      Q (-1) M1))
def rmX7_rehearse : Room := { frames := 6, cells := 0, slots := 0, locals := 144 }
def p_X7_rehearse (g : GG) (o0 : Nat) (x1 : Int) (M : Mm) (Q : Mm → Prop) : Prop :=
  p_X3_begin g (o0 + 124) (o0 + 1) x1 M (fun M3 =>
    p_X3_playTake g (o0 + 124) (o0 + 1) M3 (fun M6 =>
      Q M6))
def rmX7_take : Room := { frames := 7, cells := 0, slots := 0, locals := 165 }
def p_X7_take (g : GG) (o0 : Nat) (M : Mm) (Q : Int → Mm → Prop) : Prop :=
  inR (M ((o0 + 1) + 9) 5) ∧ ((M ((o0 + 1) + 9) 5) ≠ 0 →
    p_X2_record g (o0 + 37) (o0 + 1) M (fun M5 =>
      p_X7_rehearse g o0 (M5 (o0 + 1) 5) M5 (fun M7 =>
        p_X4_copyFrom g ((o0 + 1) + 3) ((o0 + 124) + 1) M7 (fun M12 =>
          p_X4_copyFrom g ((o0 + 1) + 7) ((o0 + 124) + 7) M12 (fun M17 =>
            ∀ M19 : Mm, M19 = mu M17 (o0 + 1) 7 ((M17 (o0 + 1) 7) + 1) →
            ∀ M24 : Mm, M24 = mu M19 (o0 + 1) 8 ((M19 (o0 + 1) 8) + ((M19 ((o0 + 1) + 9) 5) - (M19 (o0 + 124) 13))) →
            ∀ M27 : Mm, M27 = mu M24 (o0 + 1) 9 ((M24 (o0 + 1) 9) + (M24 (o0 + 124) 13)) →
            ∀ M30 : Mm, M30 = mu M27 (o0 + 1) 10 ((M27 (o0 + 1) 10) + (M27 (o0 + 124) 14)) →
            Q (M30 (o0 + 124) 13) M30))))) ∧
  ((M ((o0 + 1) + 9) 5) = 0 →
    Q (-4) M)
def rmX7_type : Room := { frames := 3, cells := 0, slots := 0, locals := 56 }
def p_X7_type (g : GG) (o0 : Nat) (x1 : Int) (M : Mm) (Q : Int → Mm → Prop) : Prop :=
  inR (M (o0 + 111) 1) ∧ ((M (o0 + 111) 1) < 60 →
    p_X6_append g (o0 + 111) x1 M (fun M3 =>
      Q (M3 (o0 + 111) 1) M3)) ∧
  (60 ≤ (M (o0 + 111) 1) →
    Q (-3) M)
def rmX7_clearText : Room := { frames := 1, cells := 0, slots := 0, locals := 13 }
def p_X7_clearText (g : GG) (o0 : Nat) (M : Mm) (Q : Int → Mm → Prop) : Prop :=
  ∀ M3 : Mm, M3 = mu M (o0 + 111) 1 0 →
  Q (M (o0 + 111) 1) M3
def rmX7_undo : Room := { frames := 5, cells := 0, slots := 0, locals := 134 }
def p_X7_undo (g : GG) (o0 : Nat) (M : Mm) (Q : Int → Mm → Prop) : Prop :=
  inR (M (o0 + 37) 1) ∧ ((M (o0 + 37) 1) ≠ 0 →
    p_X2_moveLatestTo g (o0 + 37) (o0 + 1) M (fun M4 =>
      Q (M4 (o0 + 37) 1) M4)) ∧
  ((M (o0 + 37) 1) = 0 →
    Q (-5) M)
def rmX7_keep : Room := { frames := 4, cells := 0, slots := 0, locals := 112 }
def p_X7_keep (g : GG) (o0 : Nat) (M : Mm) (Q : Int → Mm → Prop) : Prop :=
  p_X5_copyFrom g (o0 + 19) (o0 + 1) M (fun M3 =>
    ∀ M4 : Mm, M4 = mu M3 o0 6 1 →
    Q (M4 ((o0 + 1) + 9) 5) M4)
def rmX7_restore : Room := { frames := 5, cells := 0, slots := 0, locals := 134 }
def p_X7_restore (g : GG) (o0 : Nat) (M : Mm) (Q : Int → Mm → Prop) : Prop :=
  inR (M o0 6) ∧ ((M o0 6) ≠ 0 →
    p_X2_record g (o0 + 37) (o0 + 1) M (fun M3 =>
      p_X5_copyFrom g (o0 + 1) (o0 + 19) M3 (fun M6 =>
        Q (M6 ((o0 + 1) + 9) 5) M6))) ∧
  ((M o0 6) = 0 →
    Q (-5) M)
def rmX7_sound : Room := { frames := 7, cells := 0, slots := 0, locals := 165 }
def p_X7_sound (g : GG) (o0 : Nat) (x1 : Int) (x2 : Int) (M : Mm) (Q : Int → Mm → Prop) : Prop :=
  p_X7_isBelow g x1 10 M (fun r2 M1 =>
    inR r2 ∧ (r2 ≠ 0 →
      inR x2 ∧
      (x2 = 0 →
        p_X4_get g ((o0 + 1) + 1) x1 M1 (fun r6 M5 =>
          Q r6 M5)) ∧
      (x2 = 1 →
        p_X4_get g ((o0 + 1) + 3) x1 M1 (fun r10 M9 =>
          Q r10 M9)) ∧
      (x2 = 2 →
        p_X4_get g ((o0 + 1) + 5) x1 M1 (fun r14 M13 =>
          Q r14 M13)) ∧
      (x2 = 3 →
        p_X0_sizeOfSound g ((o0 + 1) + 9) x1 M1 (fun r18 M17 =>
          Q r18 M17)) ∧
      (x2 = 4 →
        p_X7_rehearse g o0 (M1 (o0 + 1) 5) M1 (fun M20 =>
          p_X3_playsOfSound g (o0 + 124) x1 ((o0 + 1) + 9) M20 (fun r25 M24 =>
            Q r25 M24))) ∧
      (x2 = 5 →
        p_X0_sizeOfSound g ((o0 + 1) + 9) x1 M1 (fun r29 M28 =>
          p_X4_get g ((o0 + 1) + 3) x1 M28 (fun r33 M32 =>
            inR (r29 - r33) ∧ 
            Q (max (r29 - r33) 0) M32))) ∧
      ((x2 < 0 ∨ 5 < x2) →
        Q (-2) M1)) ∧
    (r2 = 0 →
      Q (-1) M1))
def rmX7_cue : Room := { frames := 7, cells := 0, slots := 0, locals := 165 }
def p_X7_cue (g : GG) (o0 : Nat) (x1 : Int) (x2 : Int) (M : Mm) (Q : Int → Mm → Prop) : Prop :=
  p_X7_isBelow g x1 (M ((o0 + 1) + 9) 5) M (fun r4 M3 =>
    inR r4 ∧ (r4 ≠ 0 →
      inR x2 ∧
      (x2 = 0 →
        p_X4_get g (((o0 + 1) + 9) + 3) x1 M3 (fun r9 M8 =>
          Q r9 M8)) ∧
      (x2 = 1 →
        p_X4_get g (((o0 + 1) + 9) + 1) x1 M3 (fun r14 M13 =>
          Q r14 M13)) ∧
      (x2 = 2 →
        p_X4_get g (((o0 + 1) + 9) + 5) x1 M3 (fun r19 M18 =>
          Q r19 M18)) ∧
      (x2 = 3 →
        p_X4_get g (((o0 + 1) + 9) + 7) x1 M3 (fun r24 M23 =>
          Q r24 M23)) ∧
      (x2 = 4 →
        p_X7_rehearse g o0 (M3 (o0 + 1) 5) M3 (fun M26 =>
          p_X4_get g ((o0 + 124) + 15) x1 M26 (fun r30 M29 =>
            Q r30 M29))) ∧
      (x2 = 5 →
        p_X7_rehearse g o0 (M3 (o0 + 1) 5) M3 (fun M32 =>
          p_X4_get g ((o0 + 124) + 17) x1 M32 (fun r36 M35 =>
            Q r36 M35))) ∧
      (x2 = 6 →
        p_X7_rehearse g o0 (M3 (o0 + 1) 5) M3 (fun M38 =>
          p_X4_get g ((o0 + 124) + 19) x1 M38 (fun r42 M41 =>
            Q r42 M41))) ∧
      ((x2 < 0 ∨ 6 < x2) →
        Q (-2) M3)) ∧
    (r4 = 0 →
      Q (-1) M3))
def rmX7_hand : Room := { frames := 7, cells := 0, slots := 0, locals := 165 }
def p_X7_hand (g : GG) (o0 : Nat) (x1 : Int) (x2 : Int) (M : Mm) (Q : Int → Mm → Prop) : Prop :=
  p_X7_isBelow g x1 (M (o0 + 1) 5) M (fun r3 M2 =>
    inR r3 ∧ (r3 ≠ 0 →
      p_X7_rehearse g o0 (M2 (o0 + 1) 5) M2 (fun M5 =>
        inR x2 ∧
        (x2 = 0 →
          p_X4_get g ((o0 + 1) + 7) x1 M5 (fun r9 M8 =>
            Q r9 M8)) ∧
        (x2 = 1 →
          p_X4_get g ((o0 + 124) + 11) x1 M5 (fun r13 M12 =>
            Q r13 M12)) ∧
        (x2 = 2 →
          p_X4_get g ((o0 + 124) + 13) x1 M5 (fun r17 M16 =>
            Q r17 M16)) ∧
        (x2 = 3 →
          p_X4_get g ((o0 + 124) + 9) x1 M5 (fun r21 M20 =>
            Q r21 M20)) ∧
        (x2 = 4 →
          p_X4_get g ((o0 + 124) + 7) x1 M5 (fun r25 M24 =>
            Q r25 M24)) ∧
        ((x2 < 0 ∨ 4 < x2) →
          Q (-2) M5))) ∧
    (r3 = 0 →
      Q (-1) M2))
def rmX7_scene : Room := { frames := 7, cells := 0, slots := 0, locals := 165 }
def p_X7_scene (g : GG) (o0 : Nat) (x1 : Int) (x2 : Int) (M : Mm) (Q : Int → Mm → Prop) : Prop :=
  p_X7_isBelow g x1 6 M (fun r2 M1 =>
    inR r2 ∧ (r2 ≠ 0 →
      inR x2 ∧
      (x2 = 0 →
        p_X0_sizeOfScene g ((o0 + 1) + 9) x1 M1 (fun r6 M5 =>
          Q r6 M5)) ∧
      (x2 = 1 →
        p_X0_firstTick g ((o0 + 1) + 9) x1 M1 (fun r10 M9 =>
          Q r10 M9)) ∧
      (x2 = 2 →
        p_X0_greatestEnd g ((o0 + 1) + 9) x1 M1 (fun r14 M13 =>
          Q r14 M13)) ∧
      (x2 = 3 →
        p_X7_rehearse g o0 (M1 (o0 + 1) 5) M1 (fun M16 =>
          p_X4_get g ((o0 + 124) + 21) x1 M16 (fun r20 M19 =>
            Q r20 M19))) ∧
      (x2 = 4 →
        p_X7_rehearse g o0 (M1 (o0 + 1) 5) M1 (fun M22 =>
          p_X4_get g ((o0 + 124) + 23) x1 M22 (fun r26 M25 =>
            Q r26 M25))) ∧
      ((x2 < 0 ∨ 4 < x2) →
        Q (-2) M1)) ∧
    (r2 = 0 →
      Q (-1) M1))
def rmX7_missed : Room := { frames := 7, cells := 0, slots := 0, locals := 165 }
def p_X7_missed (g : GG) (o0 : Nat) (x1 : Int) (M : Mm) (Q : Int → Mm → Prop) : Prop :=
  inR x1 ∧ (0 ≤ x1 →
    p_X7_rehearse g o0 (M (o0 + 1) 5) M (fun M2 =>
      p_X3_missedCue g (o0 + 124) x1 (M2 ((o0 + 1) + 9) 5) M2 (fun r7 M6 =>
        Q r7 M6))) ∧
  (x1 < 0 →
    Q (-2) M)
def rmX7_ifHands : Room := { frames := 7, cells := 0, slots := 0, locals := 165 }
def p_X7_ifHands (g : GG) (o0 : Nat) (x1 : Int) (M : Mm) (Q : Int → Mm → Prop) : Prop :=
  p_X7_isWithin g x1 1 4 M (fun r2 M1 =>
    inR r2 ∧ (r2 ≠ 0 →
      p_X7_rehearse g o0 x1 M1 (fun M3 =>
        Q (M3 (o0 + 124) 14) M3)) ∧
    (r2 = 0 →
      Q (-2) M1))
def rmX7_cleanTakes : Room := { frames := 6, cells := 0, slots := 0, locals := 144 }
def p_X7_cleanTakes_L36 (g : GG) : Nat → Nat → Int → Mm → (Int → Mm → Prop) → Prop
  | 0, _, _, _, _ => False
  | n + 1, o0, x1, M, Q =>
    inR x1 ∧ (30 ≤ x1 →
      Q 30 M) ∧
    (x1 < 30 →
      p_X3_playTake g (o0 + 124) (o0 + 1) M (fun M9 =>
        inR (M9 (o0 + 124) 13) ∧ ((M9 (o0 + 124) 13) ≤ 0 →
          p_X7_cleanTakes_L36 g n o0 (x1 + 1) M9 Q) ∧
        (0 < (M9 (o0 + 124) 13) →
          Q x1 M9)))
def p_X7_cleanTakes (g : GG) (o0 : Nat) (M : Mm) (Q : Int → Mm → Prop) : Prop :=
  inR (M ((o0 + 1) + 9) 5) ∧ ((M ((o0 + 1) + 9) 5) ≠ 0 →
    p_X3_begin g (o0 + 124) (o0 + 1) (M (o0 + 1) 5) M (fun M6 =>
      ∃ n11, p_X7_cleanTakes_L36 g n11 o0 0 M6 Q)) ∧
  ((M ((o0 + 1) + 9) 5) = 0 →
    Q (-4) M)
def rmX7_count : Room := { frames := 7, cells := 0, slots := 0, locals := 165 }
def p_X7_count (g : GG) (o0 : Nat) (x1 : Int) (M : Mm) (Q : Int → Mm → Prop) : Prop :=
  inR x1 ∧
  (x1 = 0 →
    Q (M ((o0 + 1) + 9) 5) M) ∧
  (x1 = 1 →
    Q (M (o0 + 1) 5) M) ∧
  (x1 = 2 →
    Q (M (o0 + 1) 6) M) ∧
  (x1 = 3 →
    Q (M (o0 + 1) 7) M) ∧
  (x1 = 4 →
    Q (M (o0 + 1) 8) M) ∧
  (x1 = 5 →
    Q (M (o0 + 1) 9) M) ∧
  (x1 = 6 →
    Q (M (o0 + 1) 10) M) ∧
  (x1 = 7 →
    p_X7_rehearse g o0 (M (o0 + 1) 5) M (fun M10 =>
      Q (M10 (o0 + 124) 13) M10)) ∧
  (x1 = 8 →
    p_X7_rehearse g o0 (M (o0 + 1) 5) M (fun M13 =>
      Q (M13 (o0 + 124) 14) M13)) ∧
  (x1 = 9 →
    p_X4_sum g ((o0 + 1) + 3) M (fun r18 M17 =>
      Q r18 M17)) ∧
  (x1 = 10 →
    Q (M (o0 + 37) 1) M) ∧
  (x1 = 11 →
    Q (M (o0 + 111) 1) M) ∧
  ((x1 < 0 ∨ 11 < x1) →
    Q (-2) M)
def rmX8_in : Room := { frames := 1, cells := 0, slots := 0, locals := 13 }
def p_X8_in (g : GG) (x0 : Int) (x2 : Int) (x4 : Int) (M : Mm) (Q : Int → Mm → Prop) : Prop :=
  inL x0 ∧ inL x2 ∧ (x0 < x2 →
    Q 0 M) ∧
  (x2 ≤ x0 →
    inL x0 ∧ inL x4 ∧ (x4 < x0 →
      Q 0 M) ∧
    (x0 ≤ x4 →
      Q 1 M))
def rmX8_copy : Room := { frames := 1, cells := 0, slots := 0, locals := 13 }
def p_X8_copy_L2 (g : GG) : Nat → Nat → Nat → Int → Mm → (Mm → Prop) → Prop
  | 0, _, _, _, _, _ => False
  | n + 1, o0, o1, x2, M, Q =>
    inR x2 ∧ (201 ≤ x2 →
      Q M) ∧
    (x2 < 201 →
      0 ≤ x2 ∧ x2 < ((gl g o0 : Nat) : Int) ∧
      0 ≤ x2 ∧ x2 < ((gl g o1 : Nat) : Int) ∧ ∀ M1 : Mm, M1 = mu M o1 x2 (M o0 x2) →
      p_X8_copy_L2 g n o0 o1 (x2 + 1) M1 Q)
def p_X8_copy (g : GG) (o0 : Nat) (o1 : Nat) (M : Mm) (Q : Mm → Prop) : Prop :=
  ∃ n2, p_X8_copy_L2 g n2 o0 o1 0 M Q
def rmX8_remember : Room := { frames := 2, cells := 0, slots := 0, locals := 35 }
def p_X8_remember (g : GG) (o0 : Nat) (M : Mm) (Q : Mm → Prop) : Prop :=
  p_X8_copy g (o0 + 1) (o0 + 2) M (fun M3 =>
    Q M3)
def rmX8_acted : Room := { frames := 1, cells := 0, slots := 0, locals := 13 }
def p_X8_acted_L51 (g : GG) : Nat → Nat → Int → Int → Mm → (Int → Mm → Prop) → Prop
  | 0, _, _, _, _, _ => False
  | n + 1, o0, x1, x2, M, Q =>
    inR x2 ∧ (201 ≤ x2 →
      ∀ M1 : Mm, M1 = mu M o0 4 ((M o0 4) + 1) →
      Q x1 M1) ∧
    (x2 < 201 →
      0 ≤ x2 ∧ x2 < ((gl g (o0 + 2) : Nat) : Int) ∧
      0 ≤ ((201 * (M o0 4)) + x2) ∧ ((201 * (M o0 4)) + x2) < ((gl g (o0 + 4) : Nat) : Int) ∧ ∀ M4 : Mm, M4 = mu M (o0 + 4) ((201 * (M o0 4)) + x2) (M (o0 + 2) x2) →
      p_X8_acted_L51 g n o0 x1 (x2 + 1) M4 Q)
def p_X8_acted_L10 (g : GG) : Nat → Nat → Int → Int → Mm → (Int → Mm → Prop) → Prop
  | 0, _, _, _, _, _ => False
  | n + 1, o0, x1, x2, M, Q =>
    inR x2 ∧ (603 ≤ x2 →
      ∀ M6 : Mm, M6 = mu M o0 4 ((M o0 4) - 1) →
      ∃ n7, p_X8_acted_L51 g n7 o0 x1 0 M6 Q) ∧
    (x2 < 603 →
      0 ≤ (x2 + 201) ∧ (x2 + 201) < ((gl g (o0 + 4) : Nat) : Int) ∧
      0 ≤ x2 ∧ x2 < ((gl g (o0 + 4) : Nat) : Int) ∧ ∀ M10 : Mm, M10 = mu M (o0 + 4) x2 (M (o0 + 4) (x2 + 201)) →
      p_X8_acted_L10 g n o0 x1 (x2 + 1) M10 Q)
def p_X8_acted (g : GG) (o0 : Nat) (x1 : Int) (M : Mm) (Q : Int → Mm → Prop) : Prop :=
  inR (M o0 4) ∧ ((M o0 4) ≠ 4 →
    ∃ n5, p_X8_acted_L51 g n5 o0 x1 0 M Q) ∧
  ((M o0 4) = 4 →
    ∃ n11, p_X8_acted_L10 g n11 o0 x1 0 M Q)
def rmX8_of : Room := { frames := 1, cells := 0, slots := 0, locals := 13 }
def p_X8_of (g : GG) (o0 : Nat) (x1 : Int) (x2 : Int) (M : Mm) (Q : Int → Mm → Prop) : Prop :=
  0 ≤ ((41 + (4 * x1)) + x2) ∧ ((41 + (4 * x1)) + x2) < ((gl g (o0 + 1) : Nat) : Int) ∧
  Q (M (o0 + 1) ((41 + (4 * x1)) + x2)) M
def rmX8_isCue : Room := { frames := 2, cells := 0, slots := 0, locals := 38 }
def p_X8_isCue (g : GG) (o0 : Nat) (x1 : Int) (M : Mm) (Q : Int → Mm → Prop) : Prop :=
  inR x1 ∧
  36 < ((gl g (o0 + 1) : Nat) : Int) ∧
  inR (M (o0 + 1) 36) ∧
  p_X8_in g x1 0 ((M (o0 + 1) 36) - 1) M (fun r3 M2 =>
    (r3 = 0 ∨ r3 = 1) ∧ Q r3 M2)
def rmX8_isScene : Room := { frames := 2, cells := 0, slots := 0, locals := 38 }
def p_X8_isScene (g : GG) (x0 : Int) (M : Mm) (Q : Int → Mm → Prop) : Prop :=
  inR x0 ∧
  p_X8_in g x0 0 5 M (fun r2 M1 =>
    (r2 = 0 ∨ r2 = 1) ∧ Q r2 M1)
def rmX8_isSound : Room := { frames := 2, cells := 0, slots := 0, locals := 38 }
def p_X8_isSound (g : GG) (x0 : Int) (M : Mm) (Q : Int → Mm → Prop) : Prop :=
  inR x0 ∧
  p_X8_in g x0 0 9 M (fun r2 M1 =>
    (r2 = 0 ∨ r2 = 1) ∧ Q r2 M1)
def rmX8_rankOf : Room := { frames := 1, cells := 0, slots := 0, locals := 13 }
def p_X8_rankOf (g : GG) (x0 : Int) (x1 : Int) (x2 : Int) (M : Mm) (Q : Int → Mm → Prop) : Prop :=
  Q ((((x0 * 6) + x1) * 10) + x2) M
def rmX8_rankAt : Room := { frames := 2, cells := 0, slots := 0, locals := 35 }
def p_X8_rankAt (g : GG) (o0 : Nat) (x1 : Int) (M : Mm) (Q : Int → Mm → Prop) : Prop :=
  p_X8_of g o0 x1 1 M (fun r2 M1 =>
    p_X8_of g o0 x1 0 M1 (fun r4 M3 =>
      p_X8_of g o0 x1 2 M3 (fun r6 M5 =>
        p_X8_rankOf g r2 r4 r6 M5 (fun r8 M7 =>
          Q r8 M7))))
def rmX8_takesOut : Room := { frames := 1, cells := 0, slots := 0, locals := 13 }
def p_X8_takesOut_L18 (g : GG) : Nat → Nat → Int → Mm → (Mm → Prop) → Prop
  | 0, _, _, _, _ => False
  | n + 1, o0, x2, M, Q =>
    36 < ((gl g (o0 + 1) : Nat) : Int) ∧
    inR x2 ∧ inR (41 + (4 * (M (o0 + 1) 36))) ∧ ((41 + (4 * (M (o0 + 1) 36))) ≤ x2 →
      Q M) ∧
    (x2 < (41 + (4 * (M (o0 + 1) 36))) →
      0 ≤ (x2 + 4) ∧ (x2 + 4) < ((gl g (o0 + 1) : Nat) : Int) ∧
      0 ≤ x2 ∧ x2 < ((gl g (o0 + 1) : Nat) : Int) ∧ ∀ M6 : Mm, M6 = mu M (o0 + 1) x2 (M (o0 + 1) (x2 + 4)) →
      p_X8_takesOut_L18 g n o0 (x2 + 1) M6 Q)
def p_X8_takesOut (g : GG) (o0 : Nat) (x1 : Int) (M : Mm) (Q : Mm → Prop) : Prop :=
  36 < ((gl g (o0 + 1) : Nat) : Int) ∧
  36 < ((gl g (o0 + 1) : Nat) : Int) ∧ ∀ M2 : Mm, M2 = mu M (o0 + 1) 36 ((M (o0 + 1) 36) - 1) →
  ∃ n7, p_X8_takesOut_L18 g n7 o0 (41 + (4 * x1)) M2 Q
def rmX8_putsIn : Room := { frames := 3, cells := 0, slots := 0, locals := 56 }
def p_X8_putsIn_L52 (g : GG) : Nat → Nat → Int → Int → Int → Int → Int → Int → Mm → (Mm → Prop) → Prop
  | 0, _, _, _, _, _, _, _, _, _ => False
  | n + 1, o0, x1, x2, x3, x4, x5, x6, M, Q =>
    inR x6 ∧ inR (41 + (4 * x5)) ∧ (x6 < (41 + (4 * x5)) →
      36 < ((gl g (o0 + 1) : Nat) : Int) ∧
      36 < ((gl g (o0 + 1) : Nat) : Int) ∧ ∀ M4 : Mm, M4 = mu M (o0 + 1) 36 ((M (o0 + 1) 36) + 1) →
      0 ≤ ((41 + (4 * x5)) + 0) ∧ ((41 + (4 * x5)) + 0) < ((gl g (o0 + 1) : Nat) : Int) ∧ ∀ M6 : Mm, M6 = mu M4 (o0 + 1) ((41 + (4 * x5)) + 0) x1 →
      0 ≤ ((41 + (4 * x5)) + 1) ∧ ((41 + (4 * x5)) + 1) < ((gl g (o0 + 1) : Nat) : Int) ∧ ∀ M8 : Mm, M8 = mu M6 (o0 + 1) ((41 + (4 * x5)) + 1) x2 →
      0 ≤ ((41 + (4 * x5)) + 2) ∧ ((41 + (4 * x5)) + 2) < ((gl g (o0 + 1) : Nat) : Int) ∧ ∀ M10 : Mm, M10 = mu M8 (o0 + 1) ((41 + (4 * x5)) + 2) x3 →
      0 ≤ ((41 + (4 * x5)) + 3) ∧ ((41 + (4 * x5)) + 3) < ((gl g (o0 + 1) : Nat) : Int) ∧ ∀ M12 : Mm, M12 = mu M10 (o0 + 1) ((41 + (4 * x5)) + 3) x4 →
      Q M12) ∧
    ((41 + (4 * x5)) ≤ x6 →
      0 ≤ x6 ∧ x6 < ((gl g (o0 + 1) : Nat) : Int) ∧
      0 ≤ (x6 + 4) ∧ (x6 + 4) < ((gl g (o0 + 1) : Nat) : Int) ∧ ∀ M15 : Mm, M15 = mu M (o0 + 1) (x6 + 4) (M (o0 + 1) x6) →
      p_X8_putsIn_L52 g n o0 x1 x2 x3 x4 x5 (x6 + (-1)) M15 Q)
def p_X8_putsIn_J36 (g : GG) (o0 : Nat) (x1 : Int) (x2 : Int) (x3 : Int) (x4 : Int) (x5 : Int) (M : Mm) (Q : Mm → Prop) : Prop :=
  36 < ((gl g (o0 + 1) : Nat) : Int) ∧
  ∃ n16, p_X8_putsIn_L52 g n16 o0 x1 x2 x3 x4 x5 ((41 + (4 * (M (o0 + 1) 36))) - 1) M Q
def p_X8_putsIn_L3 (g : GG) : Nat → Nat → Int → Int → Int → Int → Int → Mm → (Mm → Prop) → Prop
  | 0, _, _, _, _, _, _, _, _ => False
  | n + 1, o0, x1, x2, x3, x4, x5, M, Q =>
    36 < ((gl g (o0 + 1) : Nat) : Int) ∧
    inR x5 ∧ inR (M (o0 + 1) 36) ∧ ((M (o0 + 1) 36) ≤ x5 →
      p_X8_putsIn_J36 g o0 x1 x2 x3 x4 x5 M Q) ∧
    (x5 < (M (o0 + 1) 36) →
      p_X8_rankAt g o0 x5 M (fun r18 M17 =>
        p_X8_rankOf g x2 x1 x3 M17 (fun r20 M19 =>
          inR r18 ∧ inR r20 ∧ (r20 ≤ r18 →
            p_X8_putsIn_J36 g o0 x1 x2 x3 x4 x5 M19 Q) ∧
          (r18 < r20 →
            p_X8_putsIn_L3 g n o0 x1 x2 x3 x4 (x5 + 1) M19 Q))))
def p_X8_putsIn (g : GG) (o0 : Nat) (x1 : Int) (x2 : Int) (x3 : Int) (x4 : Int) (M : Mm) (Q : Mm → Prop) : Prop :=
  ∃ n21, p_X8_putsIn_L3 g n21 o0 x1 x2 x3 x4 0 M Q
def rmX8_cuesOf : Room := { frames := 2, cells := 0, slots := 0, locals := 35 }
def p_X8_cuesOf_L4 (g : GG) : Nat → Nat → Int → Int → Int → Mm → (Int → Mm → Prop) → Prop
  | 0, _, _, _, _, _, _ => False
  | n + 1, o0, x1, x2, x3, M, Q =>
    36 < ((gl g (o0 + 1) : Nat) : Int) ∧
    inR x3 ∧ inR (M (o0 + 1) 36) ∧ ((M (o0 + 1) 36) ≤ x3 →
      Q x2 M) ∧
    (x3 < (M (o0 + 1) 36) →
      p_X8_of g o0 x3 0 M (fun r3 M2 =>
        inR r3 ∧ inR x1 ∧ (r3 ≠ x1 →
          p_X8_cuesOf_L4 g n o0 x1 (x2 + 0) (x3 + 1) M2 Q) ∧
        (r3 = x1 →
          p_X8_cuesOf_L4 g n o0 x1 (x2 + 1) (x3 + 1) M2 Q)))
def p_X8_cuesOf (g : GG) (o0 : Nat) (x1 : Int) (M : Mm) (Q : Int → Mm → Prop) : Prop :=
  ∃ n4, p_X8_cuesOf_L4 g n4 o0 x1 0 0 M Q
def rmX8_apart : Room := { frames := 1, cells := 0, slots := 0, locals := 13 }
def p_X8_apart (g : GG) (x0 : Int) (x1 : Int) (M : Mm) (Q : Int → Mm → Prop) : Prop :=
  inR x0 ∧ inR x1 ∧ (x1 ≤ x0 →
    Q (x0 - x1) M) ∧
  (x0 < x1 →
    Q (x1 - x0) M)
def rmX8_handFor : Room := { frames := 2, cells := 0, slots := 0, locals := 34 }
def p_X8_handFor_L6 (g : GG) : Nat → Nat → Int → Int → Int → Int → Mm → (Int → Mm → Prop) → Prop
  | 0, _, _, _, _, _, _, _ => False
  | n + 1, o0, x1, x2, x3, x4, M, Q =>
    30 < ((gl g (o0 + 1) : Nat) : Int) ∧
    inR x4 ∧ inR (M (o0 + 1) 30) ∧ ((M (o0 + 1) 30) ≤ x4 →
      Q x3 M) ∧
    (x4 < (M (o0 + 1) 30) →
      0 ≤ (31 + x4) ∧ (31 + x4) < ((gl g (o0 + 1) : Nat) : Int) ∧
      p_X8_apart g (M (o0 + 1) (31 + x4)) x1 M (fun r4 M3 =>
        0 ≤ x4 ∧ x4 < ((gl g (o0 + 10) : Nat) : Int) ∧
        inR (x2 - (M3 (o0 + 10) x4)) ∧ inR r4 ∧ ((x2 - (M3 (o0 + 10) x4)) < r4 →
          p_X8_handFor_L6 g n o0 x1 x2 x3 (x4 + 1) M3 Q) ∧
        (r4 ≤ (x2 - (M3 (o0 + 10) x4)) →
          inR x3 ∧ (x3 = (-5) →
            p_X8_handFor_L6 g n o0 x1 x2 x4 (x4 + 1) M3 Q) ∧
          (x3 ≠ (-5) →
            0 ≤ (31 + x3) ∧ (31 + x3) < ((gl g (o0 + 1) : Nat) : Int) ∧
            p_X8_apart g (M3 (o0 + 1) (31 + x3)) x1 M3 (fun r8 M7 =>
              inR r4 ∧ inR r8 ∧ (r8 ≤ r4 →
                p_X8_handFor_L6 g n o0 x1 x2 x3 (x4 + 1) M7 Q) ∧
              (r4 < r8 →
                p_X8_handFor_L6 g n o0 x1 x2 x4 (x4 + 1) M7 Q))))))
def p_X8_handFor (g : GG) (o0 : Nat) (x1 : Int) (x2 : Int) (M : Mm) (Q : Int → Mm → Prop) : Prop :=
  ∃ n9, p_X8_handFor_L6 g n9 o0 x1 x2 (-5) 0 M Q
def rmX8_isThere : Room := { frames := 2, cells := 0, slots := 0, locals := 35 }
def p_X8_isThere_J61 (g : GG) (y0 : Int) (y1 : Int) (M : Mm) (Q : Int → Mm → Prop) : Prop :=
  inR y0 ∧ inR y1 ∧ (y0 < y1 →
    Q 0 M) ∧
  (y1 ≤ y0 →
    Q 1 M)
def p_X8_isThere (g : GG) (o0 : Nat) (x1 : Int) (M : Mm) (Q : Int → Mm → Prop) : Prop :=
  p_X8_of g o0 x1 2 M (fun r2 M1 =>
    0 ≤ r2 ∧ r2 < ((gl g (o0 + 13) : Nat) : Int) ∧
    inR (M1 (o0 + 13) r2) ∧ ((M1 (o0 + 13) r2) ≠ (-5) →
      p_X8_of g o0 x1 1 M1 (fun r5 M4 =>
        0 ≤ r2 ∧ r2 < ((gl g (o0 + 14) : Nat) : Int) ∧
        0 ≤ r2 ∧ r2 < ((gl g (o0 + 13) : Nat) : Int) ∧
        p_X8_of g o0 x1 0 M4 (fun r9 M8 =>
          inR (M4 (o0 + 13) r2) ∧ inR r9 ∧ ((M4 (o0 + 13) r2) ≠ r9 →
            35 < ((gl g (o0 + 1) : Nat) : Int) ∧
            p_X8_isThere_J61 g (r5 - (M4 (o0 + 14) r2)) (M8 (o0 + 1) 35) M8 Q) ∧
          ((M4 (o0 + 13) r2) = r9 →
            p_X8_isThere_J61 g (r5 - (M4 (o0 + 14) r2)) 0 M8 Q)))) ∧
    ((M1 (o0 + 13) r2) = (-5) →
      Q 1 M1))
def rmX8_comesTo : Room := { frames := 3, cells := 0, slots := 0, locals := 59 }
def p_X8_comesTo_J200 (g : GG) (o0 : Nat) (x1 : Int) (x2 : Int) (x3 : Int) (x4 : Int) (z0 : Nat) (y1 : Int) (y2 : Int) (M : Mm) (Q : Mm → Prop) : Prop :=
  0 ≤ y1 ∧ y1 < ((gl g z0 : Nat) : Int) ∧ ∀ M29 : Mm, M29 = mu M z0 y1 y2 →
  0 ≤ x4 ∧ x4 < ((gl g (o0 + 11) : Nat) : Int) ∧
  0 ≤ x4 ∧ x4 < ((gl g (o0 + 11) : Nat) : Int) ∧ ∀ M31 : Mm, M31 = mu M29 (o0 + 11) x4 ((M29 (o0 + 11) x4) + 1) →
  0 ≤ x4 ∧ x4 < ((gl g (o0 + 12) : Nat) : Int) ∧
  0 ≤ x1 ∧ x1 < ((gl g (o0 + 8) : Nat) : Int) ∧
  0 ≤ x4 ∧ x4 < ((gl g (o0 + 12) : Nat) : Int) ∧ ∀ M34 : Mm, M34 = mu M31 (o0 + 12) x4 ((M31 (o0 + 12) x4) + (M31 (o0 + 8) x1)) →
  0 ≤ (31 + x4) ∧ (31 + x4) < ((gl g (o0 + 1) : Nat) : Int) ∧ ∀ M36 : Mm, M36 = mu M34 (o0 + 1) (31 + x4) x3 →
  p_X8_of g o0 x1 1 M36 (fun r39 M38 =>
    p_X8_of g o0 x1 3 M38 (fun r41 M40 =>
      0 ≤ x4 ∧ x4 < ((gl g (o0 + 10) : Nat) : Int) ∧ ∀ M42 : Mm, M42 = mu M40 (o0 + 10) x4 (r39 + r41) →
      p_X8_of g o0 x1 0 M42 (fun r45 M44 =>
        0 ≤ x2 ∧ x2 < ((gl g (o0 + 13) : Nat) : Int) ∧ ∀ M46 : Mm, M46 = mu M44 (o0 + 13) x2 r45 →
        0 ≤ x4 ∧ x4 < ((gl g (o0 + 10) : Nat) : Int) ∧
        0 ≤ x2 ∧ x2 < ((gl g (o0 + 14) : Nat) : Int) ∧ ∀ M49 : Mm, M49 = mu M46 (o0 + 14) x2 (M46 (o0 + 10) x4) →
        0 ≤ (10 + x2) ∧ (10 + x2) < ((gl g (o0 + 1) : Nat) : Int) ∧
        0 ≤ (10 + x2) ∧ (10 + x2) < ((gl g (o0 + 1) : Nat) : Int) ∧ ∀ M51 : Mm, M51 = mu M49 (o0 + 1) (10 + x2) ((M49 (o0 + 1) (10 + x2)) - 1) →
        Q M51)))
def p_X8_comesTo_J199 (g : GG) (o0 : Nat) (x1 : Int) (x2 : Int) (x3 : Int) (x4 : Int) (z0 : Nat) (y1 : Int) (M : Mm) (Q : Mm → Prop) : Prop :=
  p_X8_comesTo_J200 g o0 x1 x2 x3 x4 z0 y1 0 M Q
def p_X8_comesTo_J97 (g : GG) (o0 : Nat) (x1 : Int) (x2 : Int) (x3 : Int) (x4 : Int) (z0 : Nat) (y1 : Int) (y2 : Int) (M : Mm) (Q : Mm → Prop) : Prop :=
  0 ≤ y1 ∧ y1 < ((gl g z0 : Nat) : Int) ∧ ∀ M18 : Mm, M18 = mu M z0 y1 y2 →
  0 ≤ x1 ∧ x1 < ((gl g (o0 + 7) : Nat) : Int) ∧
  inR (M18 (o0 + 7) x1) ∧ ((M18 (o0 + 7) x1) ≤ 0 →
    0 ≤ x1 ∧ x1 < ((gl g (o0 + 6) : Nat) : Int) ∧ ∀ M21 : Mm, M21 = mu M18 (o0 + 6) x1 x4 →
    0 ≤ (31 + x4) ∧ (31 + x4) < ((gl g (o0 + 1) : Nat) : Int) ∧
    p_X8_apart g (M21 (o0 + 1) (31 + x4)) x3 M21 (fun r25 M24 =>
      0 ≤ x1 ∧ x1 < ((gl g (o0 + 8) : Nat) : Int) ∧ ∀ M26 : Mm, M26 = mu M24 (o0 + 8) x1 r25 →
      0 ≤ x2 ∧ x2 < ((gl g (o0 + 13) : Nat) : Int) ∧
      inR (M26 (o0 + 13) x2) ∧ ((M26 (o0 + 13) x2) = (-5) →
        p_X8_comesTo_J199 g o0 x1 x2 x3 x4 (o0 + 9) x1 M26 Q) ∧
      ((M26 (o0 + 13) x2) ≠ (-5) →
        0 ≤ x2 ∧ x2 < ((gl g (o0 + 13) : Nat) : Int) ∧
        p_X8_of g o0 x1 0 M26 (fun r54 M53 =>
          inR (M26 (o0 + 13) x2) ∧ inR r54 ∧ ((M26 (o0 + 13) x2) = r54 →
            p_X8_comesTo_J199 g o0 x1 x2 x3 x4 (o0 + 9) x1 M53 Q) ∧
          ((M26 (o0 + 13) x2) ≠ r54 →
            p_X8_comesTo_J200 g o0 x1 x2 x3 x4 (o0 + 9) x1 1 M53 Q))))) ∧
  (0 < (M18 (o0 + 7) x1) →
    ∀ M55 : Mm, M55 = mu M18 o0 16 ((M18 o0 16) + 1) →
    0 ≤ (20 + x2) ∧ (20 + x2) < ((gl g (o0 + 1) : Nat) : Int) ∧
    ∀ M57 : Mm, M57 = mu M55 o0 17 ((M55 o0 17) + (M55 (o0 + 1) (20 + x2))) →
    Q M57)
def p_X8_comesTo (g : GG) (o0 : Nat) (x1 : Int) (M : Mm) (Q : Mm → Prop) : Prop :=
  p_X8_of g o0 x1 2 M (fun r2 M1 =>
    0 ≤ (0 + r2) ∧ (0 + r2) < ((gl g (o0 + 1) : Nat) : Int) ∧
    p_X8_of g o0 x1 1 M1 (fun r5 M4 =>
      p_X8_handFor g o0 (M1 (o0 + 1) (0 + r2)) r5 M4 (fun r7 M6 =>
        0 ≤ x1 ∧ x1 < ((gl g (o0 + 6) : Nat) : Int) ∧ ∀ M9 : Mm, M9 = mu M6 (o0 + 6) x1 (-5) →
        0 ≤ x1 ∧ x1 < ((gl g (o0 + 8) : Nat) : Int) ∧ ∀ M11 : Mm, M11 = mu M9 (o0 + 8) x1 (-5) →
        0 ≤ x1 ∧ x1 < ((gl g (o0 + 9) : Nat) : Int) ∧ ∀ M13 : Mm, M13 = mu M11 (o0 + 9) x1 0 →
        0 ≤ (10 + r2) ∧ (10 + r2) < ((gl g (o0 + 1) : Nat) : Int) ∧
        inR (M13 (o0 + 1) (10 + r2)) ∧ ((M13 (o0 + 1) (10 + r2)) ≠ 0 →
          p_X8_isThere g o0 x1 M13 (fun r17 M16 =>
            inR r17 ∧ (r17 ≠ 0 →
              inR r7 ∧ (r7 ≠ (-5) →
                p_X8_comesTo_J97 g o0 x1 r2 (M1 (o0 + 1) (0 + r2)) r7 (o0 + 7) x1 0 M16 Q) ∧
              (r7 = (-5) →
                p_X8_comesTo_J97 g o0 x1 r2 (M1 (o0 + 1) (0 + r2)) r7 (o0 + 7) x1 3 M16 Q)) ∧
            (r17 = 0 →
              p_X8_comesTo_J97 g o0 x1 r2 (M1 (o0 + 1) (0 + r2)) r7 (o0 + 7) x1 2 M16 Q))) ∧
        ((M13 (o0 + 1) (10 + r2)) = 0 →
          p_X8_comesTo_J97 g o0 x1 r2 (M1 (o0 + 1) (0 + r2)) r7 (o0 + 7) x1 1 M13 Q))))
def rmX8_plays : Room := { frames := 4, cells := 0, slots := 0, locals := 83 }
def p_X8_plays_L75 (g : GG) : Nat → Nat → Int → Mm → (Mm → Prop) → Prop
  | 0, _, _, _, _ => False
  | n + 1, o0, x1, M, Q =>
    36 < ((gl g (o0 + 1) : Nat) : Int) ∧
    inR x1 ∧ inR (M (o0 + 1) 36) ∧ ((M (o0 + 1) 36) ≤ x1 →
      Q M) ∧
    (x1 < (M (o0 + 1) 36) →
      p_X8_comesTo g o0 x1 M (fun M4 =>
        p_X8_plays_L75 g n o0 (x1 + 1) M4 Q))
def p_X8_plays_L46 (g : GG) : Nat → Nat → Int → Mm → (Mm → Prop) → Prop
  | 0, _, _, _, _ => False
  | n + 1, o0, x1, M, Q =>
    inR x1 ∧ (10 ≤ x1 →
      ∃ n5, p_X8_plays_L75 g n5 o0 0 M Q) ∧
    (x1 < 10 →
      0 ≤ x1 ∧ x1 < ((gl g (o0 + 13) : Nat) : Int) ∧ ∀ M7 : Mm, M7 = mu M (o0 + 13) x1 (-5) →
      0 ≤ x1 ∧ x1 < ((gl g (o0 + 14) : Nat) : Int) ∧ ∀ M9 : Mm, M9 = mu M7 (o0 + 14) x1 0 →
      p_X8_plays_L46 g n o0 (x1 + 1) M9 Q)
def p_X8_plays_L12 (g : GG) : Nat → Nat → Int → Mm → (Mm → Prop) → Prop
  | 0, _, _, _, _ => False
  | n + 1, o0, x1, M, Q =>
    inR x1 ∧ (4 ≤ x1 →
      ∃ n10, p_X8_plays_L46 g n10 o0 0 M Q) ∧
    (x1 < 4 →
      0 ≤ x1 ∧ x1 < ((gl g (o0 + 10) : Nat) : Int) ∧ ∀ M12 : Mm, M12 = mu M (o0 + 10) x1 0 →
      0 ≤ x1 ∧ x1 < ((gl g (o0 + 11) : Nat) : Int) ∧ ∀ M14 : Mm, M14 = mu M12 (o0 + 11) x1 0 →
      0 ≤ x1 ∧ x1 < ((gl g (o0 + 12) : Nat) : Int) ∧ ∀ M16 : Mm, M16 = mu M14 (o0 + 12) x1 0 →
      p_X8_plays_L12 g n o0 (x1 + 1) M16 Q)
def p_X8_plays (g : GG) (o0 : Nat) (M : Mm) (Q : Mm → Prop) : Prop :=
  ∀ M1 : Mm, M1 = mu M o0 16 0 →
  ∀ M2 : Mm, M2 = mu M1 o0 17 0 →
  ∃ n17, p_X8_plays_L12 g n17 o0 0 M2 Q
def rmX8_tries : Room := { frames := 5, cells := 0, slots := 0, locals := 104 }
def p_X8_tries_L17 (g : GG) : Nat → Nat → Int → Mm → (Mm → Prop) → Prop
  | 0, _, _, _, _ => False
  | n + 1, o0, x1, M, Q =>
    inR x1 ∧ (4 ≤ x1 →
      p_X8_copy g (o0 + 3) (o0 + 1) M (fun M7 =>
        Q M7)) ∧
    (x1 < 4 →
      0 ≤ (31 + x1) ∧ (31 + x1) < ((gl g (o0 + 1) : Nat) : Int) ∧
      0 ≤ x1 ∧ x1 < ((gl g (o0 + 15) : Nat) : Int) ∧ ∀ M10 : Mm, M10 = mu M (o0 + 15) x1 (M (o0 + 1) (31 + x1)) →
      p_X8_tries_L17 g n o0 (x1 + 1) M10 Q)
def p_X8_tries (g : GG) (o0 : Nat) (M : Mm) (Q : Mm → Prop) : Prop :=
  p_X8_copy g (o0 + 1) (o0 + 3) M (fun M3 =>
    p_X8_plays g o0 M3 (fun M4 =>
      ∃ n11, p_X8_tries_L17 g n11 o0 0 M4 Q))
def rmX8_isValue : Room := { frames := 2, cells := 0, slots := 0, locals := 38 }
def p_X8_isValue (g : GG) (x0 : Int) (x1 : Int) (M : Mm) (Q : Int → Mm → Prop) : Prop :=
  inR x0 ∧ (x0 ≠ 0 →
    inR x0 ∧ (x0 ≠ 1 →
      inR x0 ∧ (x0 ≠ 2 →
        Q 0 M) ∧
      (x0 = 2 →
        inR x1 ∧
        p_X8_in g x1 1 9 M (fun r2 M1 =>
          inR r2 ∧ (r2 = 0 →
            Q 0 M1) ∧
          (r2 ≠ 0 →
            Q 1 M1)))) ∧
    (x0 = 1 →
      inR x1 ∧
      p_X8_in g x1 0 30 M (fun r4 M3 =>
        (r4 = 0 ∨ r4 = 1) ∧ Q r4 M3))) ∧
  (x0 = 0 →
    inR x1 ∧
    p_X8_in g x1 0 4 M (fun r6 M5 =>
      (r6 = 0 ∨ r6 = 1) ∧ Q r6 M5))
def rmX8_sets : Room := { frames := 3, cells := 0, slots := 0, locals := 55 }
def p_X8_sets (g : GG) (o0 : Nat) (x1 : Int) (x2 : Int) (M : Mm) (Q : Int → Mm → Prop) : Prop :=
  0 ≤ x1 ∧ x1 < ((gl g (o0 + 1) : Nat) : Int) ∧
  inR (M (o0 + 1) x1) ∧ inR x2 ∧ ((M (o0 + 1) x1) ≠ x2 →
    p_X8_remember g o0 M (fun M2 =>
      0 ≤ x1 ∧ x1 < ((gl g (o0 + 1) : Nat) : Int) ∧ ∀ M4 : Mm, M4 = mu M2 (o0 + 1) x1 x2 →
      p_X8_acted g o0 (M (o0 + 1) x1) M4 (fun r6 M5 =>
        Q r6 M5))) ∧
  ((M (o0 + 1) x1) = x2 →
    Q (-5) M)
def rmX8_setSound : Room := { frames := 4, cells := 0, slots := 0, locals := 78 }
def p_X8_setSound (g : GG) (o0 : Nat) (x1 : Int) (x2 : Int) (x3 : Int) (M : Mm) (Q : Int → Mm → Prop) : Prop :=
  p_X8_isSound g x1 M (fun r2 M1 =>
    inR r2 ∧ (r2 ≠ 0 →
      p_X8_isValue g x2 x3 M1 (fun r4 M3 =>
        inR r4 ∧ (r4 = 0 →
          Q (-2) M3) ∧
        (r4 ≠ 0 →
          p_X8_sets g o0 ((10 * x2) + x1) x3 M3 (fun r6 M5 =>
            Q r6 M5)))) ∧
    (r2 = 0 →
      Q (-1) M1))
def rmX8_becomeHands : Room := { frames := 1, cells := 0, slots := 0, locals := 13 }
def p_X8_becomeHands_L8 (g : GG) : Nat → Nat → Int → Int → Mm → (Mm → Prop) → Prop
  | 0, _, _, _, _, _ => False
  | n + 1, o0, x1, x2, M, Q =>
    inR x2 ∧ inR x1 ∧ (x1 ≤ x2 →
      30 < ((gl g (o0 + 1) : Nat) : Int) ∧ ∀ M3 : Mm, M3 = mu M (o0 + 1) 30 x1 →
      Q M3) ∧
    (x2 < x1 →
      0 ≤ (31 + x2) ∧ (31 + x2) < ((gl g (o0 + 1) : Nat) : Int) ∧ ∀ M5 : Mm, M5 = mu M (o0 + 1) (31 + x2) x2 →
      p_X8_becomeHands_L8 g n o0 x1 (x2 + 1) M5 Q)
def p_X8_becomeHands (g : GG) (o0 : Nat) (x1 : Int) (M : Mm) (Q : Mm → Prop) : Prop :=
  30 < ((gl g (o0 + 1) : Nat) : Int) ∧
  ∃ n6, p_X8_becomeHands_L8 g n6 o0 x1 (M (o0 + 1) 30) M Q
def rmX8_setHands : Room := { frames := 3, cells := 0, slots := 0, locals := 55 }
def p_X8_setHands (g : GG) (o0 : Nat) (x1 : Int) (M : Mm) (Q : Int → Mm → Prop) : Prop :=
  inR x1 ∧
  p_X8_in g x1 1 4 M (fun r2 M1 =>
    inR r2 ∧ (r2 ≠ 0 →
      30 < ((gl g (o0 + 1) : Nat) : Int) ∧
      inR (M1 (o0 + 1) 30) ∧ inR x1 ∧ ((M1 (o0 + 1) 30) ≠ x1 →
        p_X8_remember g o0 M1 (fun M4 =>
          p_X8_becomeHands g o0 x1 M4 (fun M5 =>
            p_X8_acted g o0 (M1 (o0 + 1) 30) M5 (fun r7 M6 =>
              Q r7 M6)))) ∧
      ((M1 (o0 + 1) 30) = x1 →
        Q (-5) M1)) ∧
    (r2 = 0 →
      Q (-2) M1))
def rmX8_isHand : Room := { frames := 2, cells := 0, slots := 0, locals := 38 }
def p_X8_isHand (g : GG) (o0 : Nat) (x1 : Int) (M : Mm) (Q : Int → Mm → Prop) : Prop :=
  inR x1 ∧
  30 < ((gl g (o0 + 1) : Nat) : Int) ∧
  inR (M (o0 + 1) 30) ∧
  p_X8_in g x1 0 ((M (o0 + 1) 30) - 1) M (fun r3 M2 =>
    (r3 = 0 ∨ r3 = 1) ∧ Q r3 M2)
def rmX8_send : Room := { frames := 4, cells := 0, slots := 0, locals := 78 }
def p_X8_send (g : GG) (o0 : Nat) (x1 : Int) (x2 : Int) (M : Mm) (Q : Int → Mm → Prop) : Prop :=
  p_X8_isHand g o0 x1 M (fun r2 M1 =>
    inR r2 ∧ (r2 = 0 →
      Q (-1) M1) ∧
    (r2 ≠ 0 →
      inR x2 ∧
      p_X8_in g x2 0 4 M1 (fun r4 M3 =>
        inR r4 ∧ (r4 = 0 →
          Q (-1) M3) ∧
        (r4 ≠ 0 →
          p_X8_sets g o0 (31 + x1) x2 M3 (fun r6 M5 =>
            Q r6 M5)))))
def rmX8_setCarrying : Room := { frames := 4, cells := 0, slots := 0, locals := 78 }
def p_X8_setCarrying (g : GG) (o0 : Nat) (x1 : Int) (M : Mm) (Q : Int → Mm → Prop) : Prop :=
  inR x1 ∧
  p_X8_in g x1 0 20 M (fun r2 M1 =>
    inR r2 ∧ (r2 = 0 →
      Q (-2) M1) ∧
    (r2 ≠ 0 →
      p_X8_sets g o0 35 x1 M1 (fun r4 M3 =>
        Q r4 M3)))
def rmX8_type : Room := { frames := 1, cells := 0, slots := 0, locals := 13 }
def p_X8_type (g : GG) (o0 : Nat) (x1 : Int) (M : Mm) (Q : Int → Mm → Prop) : Prop :=
  inR (M o0 20) ∧ ((M o0 20) ≠ 60 →
    0 ≤ (M o0 20) ∧ (M o0 20) < ((gl g (o0 + 16) : Nat) : Int) ∧ ∀ M2 : Mm, M2 = mu M (o0 + 16) (M o0 20) x1 →
    ∀ M3 : Mm, M3 = mu M2 o0 20 ((M2 o0 20) + 1) →
    Q (M3 o0 20) M3) ∧
  ((M o0 20) = 60 →
    Q (-3) M)
def rmX8_clearText : Room := { frames := 1, cells := 0, slots := 0, locals := 13 }
def p_X8_clearText (g : GG) (o0 : Nat) (M : Mm) (Q : Int → Mm → Prop) : Prop :=
  ∀ M1 : Mm, M1 = mu M o0 20 0 →
  Q (M o0 20) M1
def rmX8_isHere : Room := { frames := 2, cells := 0, slots := 0, locals := 38 }
def p_X8_isHere (g : GG) (o0 : Nat) (x1 : Int) (x2 : Int) (M : Mm) (Q : Int → Mm → Prop) : Prop :=
  inR (M o0 21) ∧ inR (M o0 20) ∧ ((M o0 20) ≤ (M o0 21) →
    Q 0 M) ∧
  ((M o0 21) < (M o0 20) →
    0 ≤ (M o0 21) ∧ (M o0 21) < ((gl g (o0 + 16) : Nat) : Int) ∧
    inR (M (o0 + 16) (M o0 21)) ∧
    inR x1 ∧
    inR x2 ∧
    p_X8_in g (M (o0 + 16) (M o0 21)) x1 x2 M (fun r3 M2 =>
      inR r3 ∧ (r3 = 0 →
        Q 0 M2) ∧
      (r3 ≠ 0 →
        Q 1 M2)))
def rmX8_takes : Room := { frames := 3, cells := 0, slots := 0, locals := 60 }
def p_X8_takes (g : GG) (o0 : Nat) (x1 : Int) (M : Mm) (Q : Int → Mm → Prop) : Prop :=
  p_X8_isHere g o0 x1 x1 M (fun r2 M1 =>
    inR r2 ∧ (r2 = 0 →
      ∀ M3 : Mm, M3 = mu M1 o0 21 ((M1 o0 21) + 0) →
      (r2 = 0 ∨ r2 = 1) ∧ Q r2 M3) ∧
    (r2 ≠ 0 →
      ∀ M4 : Mm, M4 = mu M1 o0 21 ((M1 o0 21) + 1) →
      (r2 = 0 ∨ r2 = 1) ∧ Q r2 M4))
def rmX8_readsNumber : Room := { frames := 3, cells := 0, slots := 0, locals := 60 }
def p_X8_readsNumber_L57 (g : GG) : Nat → Nat → Int → Mm → (Int → Mm → Prop) → Prop
  | 0, _, _, _, _ => False
  | n + 1, o0, x2, M, Q =>
    inR (M o0 22) ∧ ((M o0 22) ≤ 0 →
      Q 1 M) ∧
    (0 < (M o0 22) →
      p_X8_isHere g o0 48 57 M (fun r8 M7 =>
        inR r8 ∧ (r8 = 0 →
          Q 1 M7) ∧
        (r8 ≠ 0 →
          0 ≤ (M7 o0 21) ∧ (M7 o0 21) < ((gl g (o0 + 16) : Nat) : Int) ∧
          inR (((10 * (M7 o0 22)) + (M7 (o0 + 16) (M7 o0 21))) - 48) ∧ inR x2 ∧ (x2 < (((10 * (M7 o0 22)) + (M7 (o0 + 16) (M7 o0 21))) - 48) →
            Q 1 M7) ∧
          ((((10 * (M7 o0 22)) + (M7 (o0 + 16) (M7 o0 21))) - 48) ≤ x2 →
            0 ≤ (M7 o0 21) ∧ (M7 o0 21) < ((gl g (o0 + 16) : Nat) : Int) ∧
            ∀ M11 : Mm, M11 = mu M7 o0 22 (((10 * (M7 o0 22)) + (M7 (o0 + 16) (M7 o0 21))) - 48) →
            ∀ M12 : Mm, M12 = mu M11 o0 21 ((M11 o0 21) + 1) →
            p_X8_readsNumber_L57 g n o0 x2 M12 Q))))
def p_X8_readsNumber (g : GG) (o0 : Nat) (x1 : Int) (x2 : Int) (M : Mm) (Q : Int → Mm → Prop) : Prop :=
  p_X8_isHere g o0 (48 + x1) 57 M (fun r2 M1 =>
    inR r2 ∧ (r2 = 0 →
      Q 0 M1) ∧
    (r2 ≠ 0 →
      0 ≤ (M1 o0 21) ∧ (M1 o0 21) < ((gl g (o0 + 16) : Nat) : Int) ∧
      inR ((M1 (o0 + 16) (M1 o0 21)) - 48) ∧ inR x2 ∧ (((M1 (o0 + 16) (M1 o0 21)) - 48) ≤ x2 →
        0 ≤ (M1 o0 21) ∧ (M1 o0 21) < ((gl g (o0 + 16) : Nat) : Int) ∧
        ∀ M5 : Mm, M5 = mu M1 o0 22 ((M1 (o0 + 16) (M1 o0 21)) - 48) →
        ∀ M6 : Mm, M6 = mu M5 o0 21 ((M5 o0 21) + 1) →
        ∃ n13, p_X8_readsNumber_L57 g n13 o0 x2 M6 Q) ∧
      (x2 < ((M1 (o0 + 16) (M1 o0 21)) - 48) →
        Q 0 M1)))
def rmX8_readsCue : Room := { frames := 4, cells := 0, slots := 0, locals := 82 }
def p_X8_readsCue_J123 (g : GG) (o0 : Nat) (x1 : Int) (M : Mm) (Q : Int → Mm → Prop) : Prop :=
  0 ≤ (x1 + 3) ∧ (x1 + 3) < ((gl g (o0 + 17) : Nat) : Int) ∧ ∀ M21 : Mm, M21 = mu M (o0 + 17) (x1 + 3) (M o0 22) →
  ∀ M22 : Mm, M22 = mu M21 o0 24 ((M21 o0 24) + 1) →
  Q 1 M22
def p_X8_readsCue (g : GG) (o0 : Nat) (M : Mm) (Q : Int → Mm → Prop) : Prop :=
  p_X8_readsNumber g o0 0 5 M (fun r2 M1 =>
    inR r2 ∧ (r2 ≠ 0 →
      0 ≤ ((4 * (M o0 24)) + 0) ∧ ((4 * (M o0 24)) + 0) < ((gl g (o0 + 17) : Nat) : Int) ∧ ∀ M4 : Mm, M4 = mu M1 (o0 + 17) ((4 * (M o0 24)) + 0) (M1 o0 22) →
      p_X8_takes g o0 64 M4 (fun r6 M5 =>
        inR r6 ∧ (r6 = 0 →
          Q 0 M5) ∧
        (r6 ≠ 0 →
          p_X8_readsNumber g o0 0 999 M5 (fun r8 M7 =>
            inR r8 ∧ (r8 ≠ 0 →
              0 ≤ ((4 * (M o0 24)) + 1) ∧ ((4 * (M o0 24)) + 1) < ((gl g (o0 + 17) : Nat) : Int) ∧ ∀ M10 : Mm, M10 = mu M7 (o0 + 17) ((4 * (M o0 24)) + 1) (M7 o0 22) →
              p_X8_takes g o0 115 M10 (fun r12 M11 =>
                inR r12 ∧ (r12 = 0 →
                  Q 0 M11) ∧
                (r12 ≠ 0 →
                  p_X8_readsNumber g o0 0 9 M11 (fun r14 M13 =>
                    inR r14 ∧ (r14 ≠ 0 →
                      0 ≤ ((4 * (M o0 24)) + 2) ∧ ((4 * (M o0 24)) + 2) < ((gl g (o0 + 17) : Nat) : Int) ∧ ∀ M16 : Mm, M16 = mu M13 (o0 + 17) ((4 * (M o0 24)) + 2) (M13 o0 22) →
                      ∀ M17 : Mm, M17 = mu M16 o0 22 1 →
                      p_X8_takes g o0 42 M17 (fun r19 M18 =>
                        inR r19 ∧ (r19 = 0 →
                          p_X8_readsCue_J123 g o0 (4 * (M o0 24)) M18 Q) ∧
                        (r19 ≠ 0 →
                          p_X8_readsNumber g o0 1 20 M18 (fun r24 M23 =>
                            inR r24 ∧ (r24 ≠ 0 →
                              p_X8_readsCue_J123 g o0 (4 * (M o0 24)) M23 Q) ∧
                            (r24 = 0 →
                              Q 0 M23))))) ∧
                    (r14 = 0 →
                      Q 0 M13))))) ∧
            (r8 = 0 →
              Q 0 M7))))) ∧
    (r2 = 0 →
      Q 0 M1))
def rmX8_fault : Room := { frames := 5, cells := 0, slots := 0, locals := 103 }
def p_X8_fault_L12 (g : GG) : Nat → Nat → Int → Mm → (Int → Mm → Prop) → Prop
  | 0, _, _, _, _ => False
  | n + 1, o0, x1, M, Q =>
    inR x1 ∧ (x1 = 0 →
      inR (M o0 21) ∧ inR (M o0 20) ∧ ((M o0 21) ≠ (M o0 20) →
        Q (M o0 21) M) ∧
      ((M o0 21) = (M o0 20) →
        Q (-5) M)) ∧
    (x1 ≠ 0 →
      p_X8_readsCue g o0 M (fun r4 M3 =>
        inR r4 ∧ (r4 ≠ 0 →
          p_X8_takes g o0 44 M3 (fun r6 M5 =>
            p_X8_fault_L12 g n o0 r6 M5 Q)) ∧
        (r4 = 0 →
          Q (M3 o0 21) M3)))
def p_X8_fault (g : GG) (o0 : Nat) (M : Mm) (Q : Int → Mm → Prop) : Prop :=
  ∀ M1 : Mm, M1 = mu M o0 21 0 →
  ∀ M2 : Mm, M2 = mu M1 o0 24 0 →
  ∃ n7, p_X8_fault_L12 g n7 o0 1 M2 Q
def rmX8_rankRead : Room := { frames := 2, cells := 0, slots := 0, locals := 35 }
def p_X8_rankRead (g : GG) (o0 : Nat) (x1 : Int) (M : Mm) (Q : Int → Mm → Prop) : Prop :=
  0 ≤ ((4 * x1) + 1) ∧ ((4 * x1) + 1) < ((gl g (o0 + 17) : Nat) : Int) ∧
  0 ≤ ((4 * x1) + 0) ∧ ((4 * x1) + 0) < ((gl g (o0 + 17) : Nat) : Int) ∧
  0 ≤ ((4 * x1) + 2) ∧ ((4 * x1) + 2) < ((gl g (o0 + 17) : Nat) : Int) ∧
  p_X8_rankOf g (M (o0 + 17) ((4 * x1) + 1)) (M (o0 + 17) ((4 * x1) + 0)) (M (o0 + 17) ((4 * x1) + 2)) M (fun r5 M4 =>
    Q r5 M4)
def rmX8_isTwice : Room := { frames := 3, cells := 0, slots := 0, locals := 56 }
def p_X8_isTwice_L46 (g : GG) : Nat → Nat → Int → Int → Int → Mm → (Int → Mm → Prop) → Prop
  | 0, _, _, _, _, _, _ => False
  | n + 1, o0, x1, x2, x3, M, Q =>
    inR x3 ∧ inR x1 ∧ (x1 ≤ x3 →
      (x2 = 0 ∨ x2 = 1) ∧ Q x2 M) ∧
    (x3 < x1 →
      inR x2 ∧ (x2 ≠ 0 →
        p_X8_isTwice_L46 g n o0 x1 1 (x3 + 1) M Q) ∧
      (x2 = 0 →
        p_X8_rankRead g o0 x3 M (fun r3 M2 =>
          p_X8_rankRead g o0 x1 M2 (fun r5 M4 =>
            inR r3 ∧ inR r5 ∧ (r3 ≠ r5 →
              p_X8_isTwice_L46 g n o0 x1 0 (x3 + 1) M4 Q) ∧
            (r3 = r5 →
              p_X8_isTwice_L46 g n o0 x1 1 (x3 + 1) M4 Q)))))
def p_X8_isTwice_L4 (g : GG) : Nat → Nat → Int → Int → Int → Mm → (Int → Mm → Prop) → Prop
  | 0, _, _, _, _, _, _ => False
  | n + 1, o0, x1, x2, x3, M, Q =>
    36 < ((gl g (o0 + 1) : Nat) : Int) ∧
    inR x3 ∧ inR (M (o0 + 1) 36) ∧ ((M (o0 + 1) 36) ≤ x3 →
      ∃ n6, p_X8_isTwice_L46 g n6 o0 x1 x2 0 M Q) ∧
    (x3 < (M (o0 + 1) 36) →
      inR x2 ∧ (x2 ≠ 0 →
        p_X8_isTwice_L4 g n o0 x1 1 (x3 + 1) M Q) ∧
      (x2 = 0 →
        p_X8_rankAt g o0 x3 M (fun r8 M7 =>
          p_X8_rankRead g o0 x1 M7 (fun r10 M9 =>
            inR r8 ∧ inR r10 ∧ (r8 ≠ r10 →
              p_X8_isTwice_L4 g n o0 x1 0 (x3 + 1) M9 Q) ∧
            (r8 = r10 →
              p_X8_isTwice_L4 g n o0 x1 1 (x3 + 1) M9 Q)))))
def p_X8_isTwice (g : GG) (o0 : Nat) (x1 : Int) (M : Mm) (Q : Int → Mm → Prop) : Prop :=
  ∃ n11, p_X8_isTwice_L4 g n11 o0 x1 0 0 M Q
def rmX8_readCues : Room := { frames := 6, cells := 0, slots := 0, locals := 124 }
def p_X8_readCues_L69 (g : GG) : Nat → Nat → Int → Mm → (Int → Mm → Prop) → Prop
  | 0, _, _, _, _ => False
  | n + 1, o0, x2, M, Q =>
    inR x2 ∧ inR (M o0 24) ∧ ((M o0 24) ≤ x2 →
      36 < ((gl g (o0 + 1) : Nat) : Int) ∧
      p_X8_acted g o0 (M (o0 + 1) 36) M (fun r7 M6 =>
        Q r7 M6)) ∧
    (x2 < (M o0 24) →
      0 ≤ (4 * x2) ∧ (4 * x2) < ((gl g (o0 + 17) : Nat) : Int) ∧
      0 ≤ ((4 * x2) + 1) ∧ ((4 * x2) + 1) < ((gl g (o0 + 17) : Nat) : Int) ∧
      0 ≤ ((4 * x2) + 2) ∧ ((4 * x2) + 2) < ((gl g (o0 + 17) : Nat) : Int) ∧
      0 ≤ ((4 * x2) + 3) ∧ ((4 * x2) + 3) < ((gl g (o0 + 17) : Nat) : Int) ∧
      p_X8_putsIn g o0 (M (o0 + 17) (4 * x2)) (M (o0 + 17) ((4 * x2) + 1)) (M (o0 + 17) ((4 * x2) + 2)) (M (o0 + 17) ((4 * x2) + 3)) M (fun M12 =>
        p_X8_readCues_L69 g n o0 (x2 + 1) M12 Q))
def p_X8_readCues_L18 (g : GG) : Nat → Nat → Int → Mm → (Int → Mm → Prop) → Prop
  | 0, _, _, _, _ => False
  | n + 1, o0, x2, M, Q =>
    inR x2 ∧ inR (M o0 24) ∧ ((M o0 24) ≤ x2 →
      36 < ((gl g (o0 + 1) : Nat) : Int) ∧
      inR ((M (o0 + 1) 36) + (M o0 24)) ∧ (((M (o0 + 1) 36) + (M o0 24)) ≤ 40 →
        p_X8_remember g o0 M (fun M4 =>
          ∃ n13, p_X8_readCues_L69 g n13 o0 0 M4 Q)) ∧
      (40 < ((M (o0 + 1) 36) + (M o0 24)) →
        Q (-3) M)) ∧
    (x2 < (M o0 24) →
      p_X8_isTwice g o0 x2 M (fun r15 M14 =>
        inR r15 ∧ (r15 = 0 →
          p_X8_readCues_L18 g n o0 (x2 + 1) M14 Q) ∧
        (r15 ≠ 0 →
          Q (-4) M14)))
def p_X8_readCues (g : GG) (o0 : Nat) (M : Mm) (Q : Int → Mm → Prop) : Prop :=
  p_X8_fault g o0 M (fun r2 M1 =>
    inR r2 ∧ (r2 = (-5) →
      ∃ n16, p_X8_readCues_L18 g n16 o0 0 M1 Q) ∧
    (r2 ≠ (-5) →
      Q ((-100) - r2) M1))
def rmX8_removeCue : Room := { frames := 3, cells := 0, slots := 0, locals := 59 }
def p_X8_removeCue (g : GG) (o0 : Nat) (x1 : Int) (M : Mm) (Q : Int → Mm → Prop) : Prop :=
  p_X8_isCue g o0 x1 M (fun r2 M1 =>
    inR r2 ∧ (r2 ≠ 0 →
      p_X8_remember g o0 M1 (fun M3 =>
        p_X8_takesOut g o0 x1 M3 (fun M4 =>
          36 < ((gl g (o0 + 1) : Nat) : Int) ∧
          p_X8_acted g o0 (M4 (o0 + 1) 36) M4 (fun r7 M6 =>
            Q r7 M6)))) ∧
    (r2 = 0 →
      Q (-1) M1))
def rmX8_takesOutScene : Room := { frames := 2, cells := 0, slots := 0, locals := 35 }
def p_X8_takesOutScene_L10 (g : GG) : Nat → Nat → Int → Int → Mm → (Mm → Prop) → Prop
  | 0, _, _, _, _, _ => False
  | n + 1, o0, x1, x2, M, Q =>
    inR x2 ∧ (x2 < 0 →
      Q M) ∧
    (0 ≤ x2 →
      p_X8_of g o0 x2 0 M (fun r3 M2 =>
        inR r3 ∧ inR x1 ∧ (r3 ≠ x1 →
          p_X8_takesOutScene_L10 g n o0 x1 (x2 + (-1)) M2 Q) ∧
        (r3 = x1 →
          p_X8_takesOut g o0 x2 M2 (fun M4 =>
            p_X8_takesOutScene_L10 g n o0 x1 (x2 + (-1)) M4 Q))))
def p_X8_takesOutScene (g : GG) (o0 : Nat) (x1 : Int) (M : Mm) (Q : Mm → Prop) : Prop :=
  36 < ((gl g (o0 + 1) : Nat) : Int) ∧
  ∃ n5, p_X8_takesOutScene_L10 g n5 o0 x1 ((M (o0 + 1) 36) - 1) M Q
def rmX8_canShift : Room := { frames := 2, cells := 0, slots := 0, locals := 38 }
def p_X8_canShift_L5 (g : GG) : Nat → Nat → Int → Int → Int → Int → Mm → (Int → Mm → Prop) → Prop
  | 0, _, _, _, _, _, _, _ => False
  | n + 1, o0, x1, x2, x3, x4, M, Q =>
    36 < ((gl g (o0 + 1) : Nat) : Int) ∧
    inR x4 ∧ inR (M (o0 + 1) 36) ∧ ((M (o0 + 1) 36) ≤ x4 →
      (x3 = 0 ∨ x3 = 1) ∧ Q x3 M) ∧
    (x4 < (M (o0 + 1) 36) →
      inR x3 ∧ (x3 = 0 →
        p_X8_canShift_L5 g n o0 x1 x2 0 (x4 + 1) M Q) ∧
      (x3 ≠ 0 →
        p_X8_of g o0 x4 0 M (fun r3 M2 =>
          inR r3 ∧ inR x1 ∧ (r3 ≠ x1 →
            p_X8_canShift_L5 g n o0 x1 x2 1 (x4 + 1) M2 Q) ∧
          (r3 = x1 →
            p_X8_of g o0 x4 1 M2 (fun r5 M4 =>
              inR (r5 + x2) ∧
              p_X8_in g (r5 + x2) 0 999 M4 (fun r7 M6 =>
                inR r7 ∧ (r7 = 0 →
                  p_X8_canShift_L5 g n o0 x1 x2 0 (x4 + 1) M6 Q) ∧
                (r7 ≠ 0 →
                  p_X8_canShift_L5 g n o0 x1 x2 1 (x4 + 1) M6 Q)))))))
def p_X8_canShift (g : GG) (o0 : Nat) (x1 : Int) (x2 : Int) (M : Mm) (Q : Int → Mm → Prop) : Prop :=
  ∃ n8, p_X8_canShift_L5 g n8 o0 x1 x2 1 0 M Q
def rmX8_shift : Room := { frames := 4, cells := 0, slots := 0, locals := 82 }
def p_X8_shift_L68 (g : GG) : Nat → Nat → Int → Int → Int → Int → Mm → (Int → Mm → Prop) → Prop
  | 0, _, _, _, _, _, _, _ => False
  | n + 1, o0, x1, x2, x3, x4, M, Q =>
    36 < ((gl g (o0 + 2) : Nat) : Int) ∧
    inR x4 ∧ inR (41 + (4 * (M (o0 + 2) 36))) ∧ ((41 + (4 * (M (o0 + 2) 36))) ≤ x4 →
      p_X8_acted g o0 x3 M (fun r13 M12 =>
        Q r13 M12)) ∧
    (x4 < (41 + (4 * (M (o0 + 2) 36))) →
      0 ≤ (x4 + 0) ∧ (x4 + 0) < ((gl g (o0 + 2) : Nat) : Int) ∧
      inR (M (o0 + 2) (x4 + 0)) ∧ inR x1 ∧ ((M (o0 + 2) (x4 + 0)) ≠ x1 →
        p_X8_shift_L68 g n o0 x1 x2 x3 (x4 + 4) M Q) ∧
      ((M (o0 + 2) (x4 + 0)) = x1 →
        0 ≤ (x4 + 1) ∧ (x4 + 1) < ((gl g (o0 + 2) : Nat) : Int) ∧
        0 ≤ (x4 + 2) ∧ (x4 + 2) < ((gl g (o0 + 2) : Nat) : Int) ∧
        0 ≤ (x4 + 3) ∧ (x4 + 3) < ((gl g (o0 + 2) : Nat) : Int) ∧
        p_X8_putsIn g o0 x1 ((M (o0 + 2) (x4 + 1)) + x2) (M (o0 + 2) (x4 + 2)) (M (o0 + 2) (x4 + 3)) M (fun M18 =>
          p_X8_shift_L68 g n o0 x1 x2 x3 (x4 + 4) M18 Q)))
def p_X8_shift (g : GG) (o0 : Nat) (x1 : Int) (x2 : Int) (M : Mm) (Q : Int → Mm → Prop) : Prop :=
  p_X8_isScene g x1 M (fun r2 M1 =>
    inR r2 ∧ (r2 ≠ 0 →
      inR x2 ∧
      p_X8_in g x2 (-99) 99 M1 (fun r4 M3 =>
        inR r4 ∧ (r4 ≠ 0 →
          p_X8_canShift g o0 x1 x2 M3 (fun r6 M5 =>
            inR r6 ∧ (r6 ≠ 0 →
              p_X8_cuesOf g o0 x1 M5 (fun r8 M7 =>
                inR x2 ∧ (x2 = 0 →
                  Q (-5) M7) ∧
                (x2 ≠ 0 →
                  inR r8 ∧ (r8 ≠ 0 →
                    p_X8_remember g o0 M7 (fun M9 =>
                      p_X8_takesOutScene g o0 x1 M9 (fun M10 =>
                        ∃ n19, p_X8_shift_L68 g n19 o0 x1 x2 r8 41 M10 Q))) ∧
                  (r8 = 0 →
                    Q (-5) M7)))) ∧
            (r6 = 0 →
              Q (-4) M5))) ∧
        (r4 = 0 →
          Q (-2) M3))) ∧
    (r2 = 0 →
      Q (-1) M1))
def rmX8_cutScene : Room := { frames := 3, cells := 0, slots := 0, locals := 58 }
def p_X8_cutScene (g : GG) (o0 : Nat) (x1 : Int) (M : Mm) (Q : Int → Mm → Prop) : Prop :=
  p_X8_isScene g x1 M (fun r2 M1 =>
    inR r2 ∧ (r2 ≠ 0 →
      p_X8_cuesOf g o0 x1 M1 (fun r4 M3 =>
        inR r4 ∧ (r4 ≠ 0 →
          p_X8_remember g o0 M3 (fun M5 =>
            p_X8_takesOutScene g o0 x1 M5 (fun M6 =>
              p_X8_acted g o0 r4 M6 (fun r8 M7 =>
                Q r8 M7)))) ∧
        (r4 = 0 →
          Q (-5) M3))) ∧
    (r2 = 0 →
      Q (-1) M1))
def rmX8_take : Room := { frames := 5, cells := 0, slots := 0, locals := 104 }
def p_X8_take (g : GG) (o0 : Nat) (M : Mm) (Q : Int → Mm → Prop) : Prop :=
  36 < ((gl g (o0 + 1) : Nat) : Int) ∧
  inR (M (o0 + 1) 36) ∧ ((M (o0 + 1) 36) ≠ 0 →
    p_X8_remember g o0 M (fun M2 =>
      p_X8_plays g o0 M2 (fun M3 =>
        37 < ((gl g (o0 + 1) : Nat) : Int) ∧
        37 < ((gl g (o0 + 1) : Nat) : Int) ∧ ∀ M5 : Mm, M5 = mu M3 (o0 + 1) 37 ((M3 (o0 + 1) 37) + 1) →
        38 < ((gl g (o0 + 1) : Nat) : Int) ∧
        36 < ((gl g (o0 + 1) : Nat) : Int) ∧
        38 < ((gl g (o0 + 1) : Nat) : Int) ∧ ∀ M8 : Mm, M8 = mu M5 (o0 + 1) 38 ((M5 (o0 + 1) 38) + ((M5 (o0 + 1) 36) - (M5 o0 16))) →
        39 < ((gl g (o0 + 1) : Nat) : Int) ∧
        39 < ((gl g (o0 + 1) : Nat) : Int) ∧ ∀ M10 : Mm, M10 = mu M8 (o0 + 1) 39 ((M8 (o0 + 1) 39) + (M8 o0 16)) →
        40 < ((gl g (o0 + 1) : Nat) : Int) ∧
        40 < ((gl g (o0 + 1) : Nat) : Int) ∧ ∀ M12 : Mm, M12 = mu M10 (o0 + 1) 40 ((M10 (o0 + 1) 40) + (M10 o0 17)) →
        p_X8_acted g o0 (M12 o0 16) M12 (fun r14 M13 =>
          Q r14 M13)))) ∧
  ((M (o0 + 1) 36) = 0 →
    Q (-4) M)
def rmX8_undo : Room := { frames := 1, cells := 0, slots := 0, locals := 13 }
def p_X8_undo_L22 (g : GG) : Nat → Nat → Int → Mm → (Int → Mm → Prop) → Prop
  | 0, _, _, _, _ => False
  | n + 1, o0, x1, M, Q =>
    inR x1 ∧ (201 ≤ x1 →
      Q (M o0 4) M) ∧
    (x1 < 201 →
      0 ≤ ((201 * (M o0 4)) + x1) ∧ ((201 * (M o0 4)) + x1) < ((gl g (o0 + 4) : Nat) : Int) ∧
      0 ≤ x1 ∧ x1 < ((gl g (o0 + 1) : Nat) : Int) ∧ ∀ M4 : Mm, M4 = mu M (o0 + 1) x1 (M (o0 + 4) ((201 * (M o0 4)) + x1)) →
      p_X8_undo_L22 g n o0 (x1 + 1) M4 Q)
def p_X8_undo (g : GG) (o0 : Nat) (M : Mm) (Q : Int → Mm → Prop) : Prop :=
  inR (M o0 4) ∧ ((M o0 4) ≠ 0 →
    ∀ M1 : Mm, M1 = mu M o0 4 ((M o0 4) - 1) →
    ∃ n5, p_X8_undo_L22 g n5 o0 0 M1 Q) ∧
  ((M o0 4) = 0 →
    Q (-5) M)
def rmX8_keep : Room := { frames := 2, cells := 0, slots := 0, locals := 35 }
def p_X8_keep (g : GG) (o0 : Nat) (M : Mm) (Q : Int → Mm → Prop) : Prop :=
  p_X8_copy g (o0 + 1) (o0 + 5) M (fun M3 =>
    ∀ M4 : Mm, M4 = mu M3 o0 6 1 →
    36 < ((gl g (o0 + 1) : Nat) : Int) ∧
    Q (M4 (o0 + 1) 36) M4)
def rmX8_restore : Room := { frames := 3, cells := 0, slots := 0, locals := 55 }
def p_X8_restore (g : GG) (o0 : Nat) (M : Mm) (Q : Int → Mm → Prop) : Prop :=
  inR (M o0 6) ∧ ((M o0 6) ≠ 0 →
    p_X8_remember g o0 M (fun M1 =>
      p_X8_copy g (o0 + 5) (o0 + 1) M1 (fun M4 =>
        36 < ((gl g (o0 + 1) : Nat) : Int) ∧
        p_X8_acted g o0 (M4 (o0 + 1) 36) M4 (fun r7 M6 =>
          Q r7 M6)))) ∧
  ((M o0 6) = 0 →
    Q (-5) M)
def rmX8_cuesOfSound : Room := { frames := 6, cells := 0, slots := 0, locals := 125 }
def p_X8_cuesOfSound_L9 (g : GG) : Nat → Nat → Int → Int → Int → Int → Mm → (Int → Mm → Prop) → Prop
  | 0, _, _, _, _, _, _, _ => False
  | n + 1, o0, x1, x2, x3, x4, M, Q =>
    36 < ((gl g (o0 + 1) : Nat) : Int) ∧
    inR x4 ∧ inR (M (o0 + 1) 36) ∧ ((M (o0 + 1) 36) ≤ x4 →
      Q x3 M) ∧
    (x4 < (M (o0 + 1) 36) →
      p_X8_of g o0 x4 2 M (fun r4 M3 =>
        inR r4 ∧ inR x1 ∧ (r4 ≠ x1 →
          p_X8_cuesOfSound_L9 g n o0 x1 x2 (x3 + 0) (x4 + 1) M3 Q) ∧
        (r4 = x1 →
          inR x2 ∧ (x2 = 0 →
            p_X8_cuesOfSound_L9 g n o0 x1 x2 (x3 + 1) (x4 + 1) M3 Q) ∧
          (x2 ≠ 0 →
            0 ≤ x4 ∧ x4 < ((gl g (o0 + 7) : Nat) : Int) ∧
            inR (M3 (o0 + 7) x4) ∧ ((M3 (o0 + 7) x4) ≠ 0 →
              p_X8_cuesOfSound_L9 g n o0 x1 x2 (x3 + 0) (x4 + 1) M3 Q) ∧
            ((M3 (o0 + 7) x4) = 0 →
              p_X8_cuesOfSound_L9 g n o0 x1 x2 (x3 + 1) (x4 + 1) M3 Q)))))
def p_X8_cuesOfSound (g : GG) (o0 : Nat) (x1 : Int) (x2 : Int) (M : Mm) (Q : Int → Mm → Prop) : Prop :=
  p_X8_tries g o0 M (fun M1 =>
    ∃ n6, p_X8_cuesOfSound_L9 g n6 o0 x1 x2 0 0 M1 Q)
def rmX8_lacks : Room := { frames := 7, cells := 0, slots := 0, locals := 149 }
def p_X8_lacks (g : GG) (o0 : Nat) (x1 : Int) (M : Mm) (Q : Int → Mm → Prop) : Prop :=
  p_X8_cuesOfSound g o0 x1 0 M (fun r2 M1 =>
    0 ≤ (10 + x1) ∧ (10 + x1) < ((gl g (o0 + 1) : Nat) : Int) ∧
    inR (r2 - (M1 (o0 + 1) (10 + x1))) ∧ (0 ≤ (r2 - (M1 (o0 + 1) (10 + x1))) →
      Q (r2 - (M1 (o0 + 1) (10 + x1))) M1) ∧
    ((r2 - (M1 (o0 + 1) (10 + x1))) < 0 →
      Q 0 M1))
def rmX8_sound : Room := { frames := 8, cells := 0, slots := 0, locals := 171 }
def p_X8_sound (g : GG) (o0 : Nat) (x1 : Int) (x2 : Int) (M : Mm) (Q : Int → Mm → Prop) : Prop :=
  p_X8_isSound g x1 M (fun r2 M1 =>
    inR r2 ∧ (r2 ≠ 0 →
      inR x2 ∧
      (x2 = 0 →
        0 ≤ ((10 * x2) + x1) ∧ ((10 * x2) + x1) < ((gl g (o0 + 1) : Nat) : Int) ∧
        Q (M1 (o0 + 1) ((10 * x2) + x1)) M1) ∧
      (x2 = 1 →
        0 ≤ ((10 * x2) + x1) ∧ ((10 * x2) + x1) < ((gl g (o0 + 1) : Nat) : Int) ∧
        Q (M1 (o0 + 1) ((10 * x2) + x1)) M1) ∧
      (x2 = 2 →
        0 ≤ ((10 * x2) + x1) ∧ ((10 * x2) + x1) < ((gl g (o0 + 1) : Nat) : Int) ∧
        Q (M1 (o0 + 1) ((10 * x2) + x1)) M1) ∧
      (x2 = 3 →
        p_X8_cuesOfSound g o0 x1 0 M1 (fun r7 M6 =>
          Q r7 M6)) ∧
      (x2 = 4 →
        p_X8_cuesOfSound g o0 x1 1 M1 (fun r9 M8 =>
          Q r9 M8)) ∧
      (x2 = 5 →
        p_X8_lacks g o0 x1 M1 (fun r11 M10 =>
          Q r11 M10)) ∧
      ((x2 < 0 ∨ 5 < x2) →
        Q (-2) M1)) ∧
    (r2 = 0 →
      Q (-1) M1))
def rmX8_cue : Room := { frames := 6, cells := 0, slots := 0, locals := 125 }
def p_X8_cue (g : GG) (o0 : Nat) (x1 : Int) (x2 : Int) (M : Mm) (Q : Int → Mm → Prop) : Prop :=
  p_X8_isCue g o0 x1 M (fun r2 M1 =>
    inR r2 ∧ (r2 ≠ 0 →
      p_X8_tries g o0 M1 (fun M3 =>
        inR x2 ∧
        (x2 = 0 →
          p_X8_of g o0 x1 x2 M3 (fun r5 M4 =>
            Q r5 M4)) ∧
        (x2 = 1 →
          p_X8_of g o0 x1 x2 M3 (fun r7 M6 =>
            Q r7 M6)) ∧
        (x2 = 2 →
          p_X8_of g o0 x1 x2 M3 (fun r9 M8 =>
            Q r9 M8)) ∧
        (x2 = 3 →
          p_X8_of g o0 x1 x2 M3 (fun r11 M10 =>
            Q r11 M10)) ∧
        (x2 = 4 →
          0 ≤ x1 ∧ x1 < ((gl g (o0 + 6) : Nat) : Int) ∧
          Q (M3 (o0 + 6) x1) M3) ∧
        (x2 = 5 →
          0 ≤ x1 ∧ x1 < ((gl g (o0 + 7) : Nat) : Int) ∧
          Q (M3 (o0 + 7) x1) M3) ∧
        (x2 = 6 →
          0 ≤ x1 ∧ x1 < ((gl g (o0 + 8) : Nat) : Int) ∧
          Q (M3 (o0 + 8) x1) M3) ∧
        ((x2 < 0 ∨ 6 < x2) →
          Q (-2) M3))) ∧
    (r2 = 0 →
      Q (-1) M1))
def rmX8_hand : Room := { frames := 6, cells := 0, slots := 0, locals := 125 }
def p_X8_hand (g : GG) (o0 : Nat) (x1 : Int) (x2 : Int) (M : Mm) (Q : Int → Mm → Prop) : Prop :=
  p_X8_isHand g o0 x1 M (fun r2 M1 =>
    inR r2 ∧ (r2 ≠ 0 →
      p_X8_tries g o0 M1 (fun M3 =>
        inR x2 ∧
        (x2 = 0 →
          0 ≤ (31 + x1) ∧ (31 + x1) < ((gl g (o0 + 1) : Nat) : Int) ∧
          Q (M3 (o0 + 1) (31 + x1)) M3) ∧
        (x2 = 1 →
          0 ≤ x1 ∧ x1 < ((gl g (o0 + 11) : Nat) : Int) ∧
          Q (M3 (o0 + 11) x1) M3) ∧
        (x2 = 2 →
          0 ≤ x1 ∧ x1 < ((gl g (o0 + 12) : Nat) : Int) ∧
          Q (M3 (o0 + 12) x1) M3) ∧
        (x2 = 3 →
          0 ≤ x1 ∧ x1 < ((gl g (o0 + 10) : Nat) : Int) ∧
          Q (M3 (o0 + 10) x1) M3) ∧
        (x2 = 4 →
          0 ≤ x1 ∧ x1 < ((gl g (o0 + 15) : Nat) : Int) ∧
          Q (M3 (o0 + 15) x1) M3) ∧
        ((x2 < 0 ∨ 4 < x2) →
          Q (-2) M3))) ∧
    (r2 = 0 →
      Q (-1) M1))
def rmX8_firstTick : Room := { frames := 2, cells := 0, slots := 0, locals := 35 }
def p_X8_firstTick_L2 (g : GG) : Nat → Nat → Int → Int → Mm → (Int → Mm → Prop) → Prop
  | 0, _, _, _, _, _ => False
  | n + 1, o0, x1, x2, M, Q =>
    36 < ((gl g (o0 + 1) : Nat) : Int) ∧
    inR x2 ∧ inR (M (o0 + 1) 36) ∧ ((M (o0 + 1) 36) ≤ x2 →
      Q (-5) M) ∧
    (x2 < (M (o0 + 1) 36) →
      p_X8_of g o0 x2 0 M (fun r3 M2 =>
        inR r3 ∧ inR x1 ∧ (r3 ≠ x1 →
          p_X8_firstTick_L2 g n o0 x1 (x2 + 1) M2 Q) ∧
        (r3 = x1 →
          p_X8_of g o0 x2 1 M2 (fun r5 M4 =>
            Q r5 M4))))
def p_X8_firstTick (g : GG) (o0 : Nat) (x1 : Int) (M : Mm) (Q : Int → Mm → Prop) : Prop :=
  ∃ n6, p_X8_firstTick_L2 g n6 o0 x1 0 M Q
def rmX8_greatestEnd : Room := { frames := 2, cells := 0, slots := 0, locals := 35 }
def p_X8_greatestEnd_L5 (g : GG) : Nat → Nat → Int → Int → Int → Mm → (Int → Mm → Prop) → Prop
  | 0, _, _, _, _, _, _ => False
  | n + 1, o0, x1, x2, x3, M, Q =>
    36 < ((gl g (o0 + 1) : Nat) : Int) ∧
    inR x3 ∧ inR (M (o0 + 1) 36) ∧ ((M (o0 + 1) 36) ≤ x3 →
      Q x2 M) ∧
    (x3 < (M (o0 + 1) 36) →
      p_X8_of g o0 x3 0 M (fun r3 M2 =>
        inR r3 ∧ inR x1 ∧ (r3 ≠ x1 →
          inR x2 ∧ ((-5) ≤ x2 →
            p_X8_greatestEnd_L5 g n o0 x1 x2 (x3 + 1) M2 Q) ∧
          (x2 < (-5) →
            p_X8_greatestEnd_L5 g n o0 x1 (-5) (x3 + 1) M2 Q)) ∧
        (r3 = x1 →
          p_X8_of g o0 x3 1 M2 (fun r5 M4 =>
            p_X8_of g o0 x3 3 M4 (fun r7 M6 =>
              inR (r5 + r7) ∧ inR x2 ∧ ((r5 + r7) ≤ x2 →
                p_X8_greatestEnd_L5 g n o0 x1 x2 (x3 + 1) M6 Q) ∧
              (x2 < (r5 + r7) →
                p_X8_greatestEnd_L5 g n o0 x1 (r5 + r7) (x3 + 1) M6 Q))))))
def p_X8_greatestEnd (g : GG) (o0 : Nat) (x1 : Int) (M : Mm) (Q : Int → Mm → Prop) : Prop :=
  ∃ n8, p_X8_greatestEnd_L5 g n8 o0 x1 (-5) 0 M Q
def rmX8_missedOf : Room := { frames := 6, cells := 0, slots := 0, locals := 125 }
def p_X8_missedOf_L8 (g : GG) : Nat → Nat → Int → Int → Int → Mm → (Int → Mm → Prop) → Prop
  | 0, _, _, _, _, _, _ => False
  | n + 1, o0, x1, x2, x3, M, Q =>
    36 < ((gl g (o0 + 1) : Nat) : Int) ∧
    inR x3 ∧ inR (M (o0 + 1) 36) ∧ ((M (o0 + 1) 36) ≤ x3 →
      Q x2 M) ∧
    (x3 < (M (o0 + 1) 36) →
      p_X8_of g o0 x3 0 M (fun r4 M3 =>
        inR r4 ∧ inR x1 ∧ (r4 ≠ x1 →
          p_X8_missedOf_L8 g n o0 x1 (x2 + 0) (x3 + 1) M3 Q) ∧
        (r4 = x1 →
          0 ≤ x3 ∧ x3 < ((gl g (o0 + 7) : Nat) : Int) ∧
          inR (M3 (o0 + 7) x3) ∧ ((M3 (o0 + 7) x3) ≤ 0 →
            p_X8_missedOf_L8 g n o0 x1 (x2 + 0) (x3 + 1) M3 Q) ∧
          (0 < (M3 (o0 + 7) x3) →
            p_X8_missedOf_L8 g n o0 x1 (x2 + 1) (x3 + 1) M3 Q))))
def p_X8_missedOf (g : GG) (o0 : Nat) (x1 : Int) (M : Mm) (Q : Int → Mm → Prop) : Prop :=
  p_X8_tries g o0 M (fun M1 =>
    ∃ n6, p_X8_missedOf_L8 g n6 o0 x1 0 0 M1 Q)
def rmX8_lentTo : Room := { frames := 6, cells := 0, slots := 0, locals := 125 }
def p_X8_lentTo_L8 (g : GG) : Nat → Nat → Int → Int → Int → Mm → (Int → Mm → Prop) → Prop
  | 0, _, _, _, _, _, _ => False
  | n + 1, o0, x1, x2, x3, M, Q =>
    36 < ((gl g (o0 + 1) : Nat) : Int) ∧
    inR x3 ∧ inR (M (o0 + 1) 36) ∧ ((M (o0 + 1) 36) ≤ x3 →
      Q x2 M) ∧
    (x3 < (M (o0 + 1) 36) →
      p_X8_of g o0 x3 0 M (fun r4 M3 =>
        inR r4 ∧ inR x1 ∧ (r4 ≠ x1 →
          p_X8_lentTo_L8 g n o0 x1 (x2 + 0) (x3 + 1) M3 Q) ∧
        (r4 = x1 →
          0 ≤ x3 ∧ x3 < ((gl g (o0 + 9) : Nat) : Int) ∧
          p_X8_lentTo_L8 g n o0 x1 (x2 + (M3 (o0 + 9) x3)) (x3 + 1) M3 Q)))
def p_X8_lentTo (g : GG) (o0 : Nat) (x1 : Int) (M : Mm) (Q : Int → Mm → Prop) : Prop :=
  p_X8_tries g o0 M (fun M1 =>
    ∃ n6, p_X8_lentTo_L8 g n6 o0 x1 0 0 M1 Q)
def rmX8_scene : Room := { frames := 7, cells := 0, slots := 0, locals := 148 }
def p_X8_scene (g : GG) (o0 : Nat) (x1 : Int) (x2 : Int) (M : Mm) (Q : Int → Mm → Prop) : Prop :=
  p_X8_isScene g x1 M (fun r2 M1 =>
    inR r2 ∧ (r2 ≠ 0 →
      inR x2 ∧
      (x2 = 0 →
        p_X8_cuesOf g o0 x1 M1 (fun r4 M3 =>
          Q r4 M3)) ∧
      (x2 = 1 →
        p_X8_firstTick g o0 x1 M1 (fun r6 M5 =>
          Q r6 M5)) ∧
      (x2 = 2 →
        p_X8_greatestEnd g o0 x1 M1 (fun r8 M7 =>
          Q r8 M7)) ∧
      (x2 = 3 →
        p_X8_missedOf g o0 x1 M1 (fun r10 M9 =>
          Q r10 M9)) ∧
      (x2 = 4 →
        p_X8_lentTo g o0 x1 M1 (fun r12 M11 =>
          Q r12 M11)) ∧
      ((x2 < 0 ∨ 4 < x2) →
        Q (-2) M1)) ∧
    (r2 = 0 →
      Q (-1) M1))
def rmX8_missed : Room := { frames := 6, cells := 0, slots := 0, locals := 125 }
def p_X8_missed_L15 (g : GG) : Nat → Nat → Int → Int → Mm → (Int → Mm → Prop) → Prop
  | 0, _, _, _, _, _ => False
  | n + 1, o0, x2, x3, M, Q =>
    36 < ((gl g (o0 + 1) : Nat) : Int) ∧
    inR x3 ∧ inR (M (o0 + 1) 36) ∧ ((M (o0 + 1) 36) ≤ x3 →
      Q (-5) M) ∧
    (x3 < (M (o0 + 1) 36) →
      0 ≤ x3 ∧ x3 < ((gl g (o0 + 7) : Nat) : Int) ∧
      inR (M (o0 + 7) x3) ∧ ((M (o0 + 7) x3) ≤ 0 →
        p_X8_missed_L15 g n o0 x2 (x3 + 1) M Q) ∧
      (0 < (M (o0 + 7) x3) →
        inR x2 ∧ (x2 ≠ 0 →
          p_X8_missed_L15 g n o0 (x2 + (-1)) (x3 + 1) M Q) ∧
        (x2 = 0 →
          Q x3 M)))
def p_X8_missed (g : GG) (o0 : Nat) (x1 : Int) (M : Mm) (Q : Int → Mm → Prop) : Prop :=
  inR x1 ∧ (0 ≤ x1 →
    p_X8_tries g o0 M (fun M1 =>
      ∃ n4, p_X8_missed_L15 g n4 o0 x1 0 M1 Q)) ∧
  (x1 < 0 →
    Q (-2) M)
def rmX8_ifHands : Room := { frames := 5, cells := 0, slots := 0, locals := 104 }
def p_X8_ifHands (g : GG) (o0 : Nat) (x1 : Int) (M : Mm) (Q : Int → Mm → Prop) : Prop :=
  inR x1 ∧
  p_X8_in g x1 1 4 M (fun r2 M1 =>
    inR r2 ∧ (r2 ≠ 0 →
      p_X8_copy g (o0 + 1) (o0 + 3) M1 (fun M5 =>
        p_X8_becomeHands g o0 x1 M5 (fun M6 =>
          p_X8_plays g o0 M6 (fun M7 =>
            p_X8_copy g (o0 + 3) (o0 + 1) M7 (fun M10 =>
              Q (M10 o0 17) M10))))) ∧
    (r2 = 0 →
      Q (-2) M1))
def rmX8_cleanTakes : Room := { frames := 5, cells := 0, slots := 0, locals := 104 }
def p_X8_cleanTakes_J70 (g : GG) (o0 : Nat) (x1 : Int) (M : Mm) (Q : Int → Mm → Prop) : Prop :=
  p_X8_copy g (o0 + 3) (o0 + 1) M (fun M7 =>
    Q x1 M7)
def p_X8_cleanTakes_L28 (g : GG) : Nat → Nat → Int → Int → Mm → (Int → Mm → Prop) → Prop
  | 0, _, _, _, _, _ => False
  | n + 1, o0, x1, x2, M, Q =>
    inR x2 ∧ (x2 = 0 →
      p_X8_cleanTakes_J70 g o0 x1 M Q) ∧
    (x2 ≠ 0 →
      inR x1 ∧ (30 ≤ x1 →
        p_X8_cleanTakes_J70 g o0 x1 M Q) ∧
      (x1 < 30 →
        p_X8_plays g o0 M (fun M8 =>
          inR (M8 o0 16) ∧ ((M8 o0 16) ≠ 0 →
            (0 = 0 →
              p_X8_cleanTakes_L28 g n o0 (x1 + 0) 0 M8 Q) ∧
            (0 ≠ 0 →
              p_X8_cleanTakes_L28 g n o0 (x1 + 1) 0 M8 Q)) ∧
          ((M8 o0 16) = 0 →
            (1 = 0 →
              p_X8_cleanTakes_L28 g n o0 (x1 + 0) 1 M8 Q) ∧
            (1 ≠ 0 →
              p_X8_cleanTakes_L28 g n o0 (x1 + 1) 1 M8 Q)))))
def p_X8_cleanTakes (g : GG) (o0 : Nat) (M : Mm) (Q : Int → Mm → Prop) : Prop :=
  36 < ((gl g (o0 + 1) : Nat) : Int) ∧
  inR (M (o0 + 1) 36) ∧ ((M (o0 + 1) 36) ≠ 0 →
    p_X8_copy g (o0 + 1) (o0 + 3) M (fun M4 =>
      ∃ n9, p_X8_cleanTakes_L28 g n9 o0 0 1 M4 Q)) ∧
  ((M (o0 + 1) 36) = 0 →
    Q (-4) M)
def rmX8_wouldMiss : Room := { frames := 6, cells := 0, slots := 0, locals := 125 }
def p_X8_wouldMiss (g : GG) (o0 : Nat) (x1 : Int) (M : Mm) (Q : Int → Mm → Prop) : Prop :=
  p_X8_tries g o0 M (fun M1 =>
    inR x1 ∧ (x1 = 0 →
      Q (M1 o0 16) M1) ∧
    (x1 ≠ 0 →
      Q (M1 o0 17) M1))
def rmX8_allCharges : Room := { frames := 1, cells := 0, slots := 0, locals := 13 }
def p_X8_allCharges_L4 (g : GG) : Nat → Nat → Int → Int → Mm → (Int → Mm → Prop) → Prop
  | 0, _, _, _, _, _ => False
  | n + 1, o0, x1, x2, M, Q =>
    inR x2 ∧ (10 ≤ x2 →
      Q x1 M) ∧
    (x2 < 10 →
      0 ≤ (10 + x2) ∧ (10 + x2) < ((gl g (o0 + 1) : Nat) : Int) ∧
      p_X8_allCharges_L4 g n o0 (x1 + (M (o0 + 1) (10 + x2))) (x2 + 1) M Q)
def p_X8_allCharges (g : GG) (o0 : Nat) (M : Mm) (Q : Int → Mm → Prop) : Prop :=
  ∃ n2, p_X8_allCharges_L4 g n2 o0 0 0 M Q
def rmX8_count : Room := { frames := 7, cells := 0, slots := 0, locals := 146 }
def p_X8_count_J112 (g : GG) (z0 : Nat) (y1 : Int) (M : Mm) (Q : Int → Mm → Prop) : Prop :=
  p_X8_wouldMiss g z0 y1 M (fun r9 M8 =>
    Q r9 M8)
def p_X8_count (g : GG) (o0 : Nat) (x1 : Int) (M : Mm) (Q : Int → Mm → Prop) : Prop :=
  inR x1 ∧
  (x1 = 0 →
    36 < ((gl g (o0 + 1) : Nat) : Int) ∧
    Q (M (o0 + 1) 36) M) ∧
  (x1 = 1 →
    30 < ((gl g (o0 + 1) : Nat) : Int) ∧
    Q (M (o0 + 1) 30) M) ∧
  (x1 = 2 →
    35 < ((gl g (o0 + 1) : Nat) : Int) ∧
    Q (M (o0 + 1) 35) M) ∧
  (x1 = 3 →
    0 ≤ ((37 + x1) - 3) ∧ ((37 + x1) - 3) < ((gl g (o0 + 1) : Nat) : Int) ∧
    Q (M (o0 + 1) ((37 + x1) - 3)) M) ∧
  (x1 = 4 →
    0 ≤ ((37 + x1) - 3) ∧ ((37 + x1) - 3) < ((gl g (o0 + 1) : Nat) : Int) ∧
    Q (M (o0 + 1) ((37 + x1) - 3)) M) ∧
  (x1 = 5 →
    0 ≤ ((37 + x1) - 3) ∧ ((37 + x1) - 3) < ((gl g (o0 + 1) : Nat) : Int) ∧
    Q (M (o0 + 1) ((37 + x1) - 3)) M) ∧
  (x1 = 6 →
    0 ≤ ((37 + x1) - 3) ∧ ((37 + x1) - 3) < ((gl g (o0 + 1) : Nat) : Int) ∧
    Q (M (o0 + 1) ((37 + x1) - 3)) M) ∧
  (x1 = 7 →
    inR x1 ∧ (x1 ≠ 8 →
      p_X8_count_J112 g o0 0 M Q) ∧
    (x1 = 8 →
      p_X8_count_J112 g o0 1 M Q)) ∧
  (x1 = 8 →
    inR x1 ∧ (x1 ≠ 8 →
      p_X8_count_J112 g o0 0 M Q) ∧
    (x1 = 8 →
      p_X8_count_J112 g o0 1 M Q)) ∧
  (x1 = 9 →
    p_X8_allCharges g o0 M (fun r11 M10 =>
      Q r11 M10)) ∧
  (x1 = 10 →
    Q (M o0 4) M) ∧
  (x1 = 11 →
    Q (M o0 20) M) ∧
  ((x1 < 0 ∨ 11 < x1) →
    Q (-2) M)
end
section
/-! contracts of the methods, by gen.py: X4_copyFrom, X0_copyFrom, X4_get, X0_endOf, X0_has, X4_put, X0_append, X0_order, X4_swap, X0_swap, X0_moveToItsPlace, X0_putInOrder, X0_removeAt, X0_removeScene, X7_isWithin, X0_canMove, X4_increase, X0_moveScene, X0_timesIn, X0_sizeOfScene, X0_sizeOfSound, X0_firstTick, X0_greatestEnd, X7_isBelow -/
theorem dX4_copyFrom_0 : decode cX4_copyFrom 0 = .ok (.aload_n 0, 1) := by decide +kernel
theorem dX4_copyFrom_1 : decode cX4_copyFrom 1 = .ok (.getfield 13, 3) := by decide +kernel
theorem dX4_copyFrom_4 : decode cX4_copyFrom 4 = .ok (.arraylength, 1) := by decide +kernel
theorem dX4_copyFrom_5 : decode cX4_copyFrom 5 = .ok (.aload_n 1, 1) := by decide +kernel
theorem dX4_copyFrom_6 : decode cX4_copyFrom 6 = .ok (.getfield 13, 3) := by decide +kernel
theorem dX4_copyFrom_9 : decode cX4_copyFrom 9 = .ok (.arraylength, 1) := by decide +kernel
theorem dX4_copyFrom_10 : decode cX4_copyFrom 10 = .ok (.invokestatic 27, 3) := by decide +kernel
theorem dX4_copyFrom_13 : decode cX4_copyFrom 13 = .ok (.istore_n 2, 1) := by decide +kernel
theorem dX4_copyFrom_14 : decode cX4_copyFrom 14 = .ok (.aload_n 1, 1) := by decide +kernel
theorem dX4_copyFrom_15 : decode cX4_copyFrom 15 = .ok (.getfield 13, 3) := by decide +kernel
theorem dX4_copyFrom_18 : decode cX4_copyFrom 18 = .ok (.iconst 0, 1) := by decide +kernel
theorem dX4_copyFrom_19 : decode cX4_copyFrom 19 = .ok (.aload_n 0, 1) := by decide +kernel
theorem dX4_copyFrom_20 : decode cX4_copyFrom 20 = .ok (.getfield 13, 3) := by decide +kernel
theorem dX4_copyFrom_23 : decode cX4_copyFrom 23 = .ok (.iconst 0, 1) := by decide +kernel
theorem dX4_copyFrom_24 : decode cX4_copyFrom 24 = .ok (.iload_n 2, 1) := by decide +kernel
theorem dX4_copyFrom_25 : decode cX4_copyFrom 25 = .ok (.invokestatic 30, 3) := by decide +kernel
theorem dX4_copyFrom_28 : decode cX4_copyFrom 28 = .ok (.return_, 1) := by decide +kernel
theorem iX4_copyFrom_4 : ∀ w ∈ u_ws RX4 TX4 1, w ∈ wsX4_copyFrom := fun w h => List.mem_cons_of_mem _ (List.mem_append_right _ (h))
set_option maxHeartbeats 4000000 in
set_option maxRecDepth 100000 in
theorem c_X4_copyFrom {E : EE} {l : Launch} {g : GG} {ad : Nat → Nat} (hg : gwf g) {o0 : Nat} {o1 : Nat} {M : Mm} {Q : Mm → Prop} (k_o0 : gk g o0 = 4) (k_o1 : gk g o1 = 4) (h : p_X4_copyFrom g o0 o1 M Q) : Ct E l yX4_copyFrom wsX4_copyFrom rmX4_copyFrom g ad [.ref (ad o0), .ref (ad o1)] M (QV E g ad Q) := by
  refine ent (cc := cX4_copyFrom) (maxL := 3) (ret := none) (own := RX4) (by decide +kernel) rfl rfl (Nat.le_of_ble_eq_true rfl) ?_
  intro p e s m below meth c ls X hr hlk K w hl
  have hl : lv_has ls 3 [(0, .ref (ad o0)), (1, .ref (ad o1))] := hl
  unfold p_X4_copyFrom at h
  refine lv_aload_n X.1 X.2.1 dX4_copyFrom_0 rfl (lv_at hl 0 rfl) ?_
  refine r_getr (N := 1) (T := TX4) X K w iX4_copyFrom_4 k_o0 rfl (by decide) 0 (by decide) rfl rfl (List.mem_of_getElem? (i := 1) rfl) dX4_copyFrom_1 ?_
  have k1 : gk g (o0 + 1) = 9 := gch hg k_o0 (by decide) 0 (by decide) rfl rfl
  refine r_alen X K w k1 dX4_copyFrom_4 ?_
  refine lv_aload_n X.1 X.2.1 dX4_copyFrom_5 rfl (lv_at hl 1 rfl) ?_
  refine r_getr (N := 1) (T := TX4) X K w iX4_copyFrom_4 k_o1 rfl (by decide) 0 (by decide) rfl rfl (List.mem_of_getElem? (i := 1) rfl) dX4_copyFrom_6 ?_
  have k2 : gk g (o1 + 1) = 9 := gch hg k_o1 (by decide) 0 (by decide) rfl rfl
  refine r_alen X K w k2 dX4_copyFrom_9 ?_
  refine r_min X hl (inR_n (hg.2 _)) (inR_n (hg.2 _)) (List.mem_of_getElem? (i := 2) rfl) (List.mem_of_getElem? (i := 3) rfl) (List.mem_of_getElem? (i := 4) rfl) (List.mem_of_getElem? (i := 5) rfl) (by decide) (Nat.le_of_ble_eq_true rfl) ⟨by decide, by decide⟩ dX4_copyFrom_10 ?_
  refine lv_istore_n (lv' := [(2, cI (min ((gl g (o0 + 1) : Nat) : Int) ((gl g (o1 + 1) : Nat) : Int))), (0, .ref (ad o0)), (1, .ref (ad o1))]) X.1 X.2.1 dX4_copyFrom_13 rfl hl (by decide) rfl (fun ls hl => ?_)
  refine lv_aload_n X.1 X.2.1 dX4_copyFrom_14 rfl (lv_at hl 2 rfl) ?_
  refine r_getr (N := 1) (T := TX4) X K w iX4_copyFrom_4 k_o1 rfl (by decide) 0 (by decide) rfl rfl (List.mem_of_getElem? (i := 1) rfl) dX4_copyFrom_15 ?_
  have k3 : gk g (o1 + 1) = 9 := gch hg k_o1 (by decide) 0 (by decide) rfl rfl
  refine r_iconst X dX4_copyFrom_18 ?_
  refine lv_aload_n X.1 X.2.1 dX4_copyFrom_19 rfl (lv_at hl 1 rfl) ?_
  refine r_getr (N := 1) (T := TX4) X K w iX4_copyFrom_4 k_o0 rfl (by decide) 0 (by decide) rfl rfl (List.mem_of_getElem? (i := 1) rfl) dX4_copyFrom_20 ?_
  have k4 : gk g (o0 + 1) = 9 := gch hg k_o0 (by decide) 0 (by decide) rfl rfl
  refine r_iconst X dX4_copyFrom_23 ?_
  refine lv_iload_n X.1 X.2.1 dX4_copyFrom_24 rfl (lv_at hl 0 rfl) ?_
  obtain ⟨b0, b1, b2, h⟩ := h
  refine r_acpy X K w hg hl k3 k4 b0 b1 b2 (List.mem_of_getElem? (i := 6) rfl) (List.mem_of_getElem? (i := 7) rfl) (List.mem_of_getElem? (i := 8) rfl) (List.mem_of_getElem? (i := 9) rfl) (by decide) (Nat.le_of_ble_eq_true rfl) dX4_copyFrom_25 (fun M5 H locs e w => ?_)
  replace h := h M5 e
  exact r_return X hr hlk K w h dX4_copyFrom_28
theorem dX0_copyFrom_0 : decode cX0_copyFrom 0 = .ok (.aload_n 0, 1) := by decide +kernel
theorem dX0_copyFrom_1 : decode cX0_copyFrom 1 = .ok (.getfield 23, 3) := by decide +kernel
theorem dX0_copyFrom_4 : decode cX0_copyFrom 4 = .ok (.aload_n 1, 1) := by decide +kernel
theorem dX0_copyFrom_5 : decode cX0_copyFrom 5 = .ok (.getfield 23, 3) := by decide +kernel
theorem dX0_copyFrom_8 : decode cX0_copyFrom 8 = .ok (.invokevirtual 36, 3) := by decide +kernel
theorem dX0_copyFrom_11 : decode cX0_copyFrom 11 = .ok (.aload_n 0, 1) := by decide +kernel
theorem dX0_copyFrom_12 : decode cX0_copyFrom 12 = .ok (.getfield 27, 3) := by decide +kernel
theorem dX0_copyFrom_15 : decode cX0_copyFrom 15 = .ok (.aload_n 1, 1) := by decide +kernel
theorem dX0_copyFrom_16 : decode cX0_copyFrom 16 = .ok (.getfield 27, 3) := by decide +kernel
theorem dX0_copyFrom_19 : decode cX0_copyFrom 19 = .ok (.invokevirtual 36, 3) := by decide +kernel
theorem dX0_copyFrom_22 : decode cX0_copyFrom 22 = .ok (.aload_n 0, 1) := by decide +kernel
theorem dX0_copyFrom_23 : decode cX0_copyFrom 23 = .ok (.getfield 30, 3) := by decide +kernel
theorem dX0_copyFrom_26 : decode cX0_copyFrom 26 = .ok (.aload_n 1, 1) := by decide +kernel
theorem dX0_copyFrom_27 : decode cX0_copyFrom 27 = .ok (.getfield 30, 3) := by decide +kernel
theorem dX0_copyFrom_30 : decode cX0_copyFrom 30 = .ok (.invokevirtual 36, 3) := by decide +kernel
theorem dX0_copyFrom_33 : decode cX0_copyFrom 33 = .ok (.aload_n 0, 1) := by decide +kernel
theorem dX0_copyFrom_34 : decode cX0_copyFrom 34 = .ok (.getfield 33, 3) := by decide +kernel
theorem dX0_copyFrom_37 : decode cX0_copyFrom 37 = .ok (.aload_n 1, 1) := by decide +kernel
theorem dX0_copyFrom_38 : decode cX0_copyFrom 38 = .ok (.getfield 33, 3) := by decide +kernel
theorem dX0_copyFrom_41 : decode cX0_copyFrom 41 = .ok (.invokevirtual 36, 3) := by decide +kernel
theorem dX0_copyFrom_44 : decode cX0_copyFrom 44 = .ok (.aload_n 0, 1) := by decide +kernel
theorem dX0_copyFrom_45 : decode cX0_copyFrom 45 = .ok (.aload_n 1, 1) := by decide +kernel
theorem dX0_copyFrom_46 : decode cX0_copyFrom 46 = .ok (.getfield 9, 3) := by decide +kernel
theorem dX0_copyFrom_49 : decode cX0_copyFrom 49 = .ok (.aload_n 0, 1) := by decide +kernel
theorem dX0_copyFrom_50 : decode cX0_copyFrom 50 = .ok (.getfield 15, 3) := by decide +kernel
theorem dX0_copyFrom_53 : decode cX0_copyFrom 53 = .ok (.invokestatic 40, 3) := by decide +kernel
theorem dX0_copyFrom_56 : decode cX0_copyFrom 56 = .ok (.putfield 9, 3) := by decide +kernel
theorem dX0_copyFrom_59 : decode cX0_copyFrom 59 = .ok (.return_, 1) := by decide +kernel
set_option maxRecDepth 20000 in
theorem ggX0_copyFrom_X4_copyFrom : GoodIn wsX0_copyFrom wsX4_copyFrom := goodIn_r _ [15, 16, 17, 8, 9, 10, 18, 19, 20, 21, 28] (by decide +kernel) (by decide +kernel)
set_option maxRecDepth 20000 in
theorem gX0_copyFrom_X4_copyFrom : GoodIn wsX0_copyFrom (wsV RX0 36 RX4 yX4_copyFrom wsX4_copyFrom) := goodIn_app (goodIn_of _ (by decide +kernel)) ggX0_copyFrom_X4_copyFrom
theorem iX0_copyFrom_0 : ∀ w ∈ u_ws RX0 TX0 6, w ∈ wsX0_copyFrom := fun w h => List.mem_cons_of_mem _ (List.mem_append_left _ (List.mem_append_right _ (h)))
set_option maxHeartbeats 4000000 in
set_option maxRecDepth 100000 in
theorem c_X0_copyFrom {E : EE} {l : Launch} {g : GG} {ad : Nat → Nat} (hg : gwf g) {o0 : Nat} {o1 : Nat} {M : Mm} {Q : Mm → Prop} (k_o0 : gk g o0 = 0) (k_o1 : gk g o1 = 0) (h : p_X0_copyFrom g o0 o1 M Q) : Ct E l yX0_copyFrom wsX0_copyFrom rmX0_copyFrom g ad [.ref (ad o0), .ref (ad o1)] M (QV E g ad Q) := by
  refine ent (cc := cX0_copyFrom) (maxL := 2) (ret := none) (own := RX0) (by decide +kernel) rfl rfl (Nat.le_of_ble_eq_true rfl) ?_
  intro p e s m below meth c ls X hr hlk K w hl
  have hl : lv_has ls 2 [(0, .ref (ad o0)), (1, .ref (ad o1))] := hl
  unfold p_X0_copyFrom at h
  refine lv_aload_n X.1 X.2.1 dX0_copyFrom_0 rfl (lv_at hl 0 rfl) ?_
  refine r_getr (N := 6) (T := TX0) X K w iX0_copyFrom_0 k_o0 rfl (by decide) 1 (by decide) rfl rfl (List.mem_of_getElem? (i := 1) rfl) dX0_copyFrom_1 ?_
  have k1 : gk g (o0 + 1) = 4 := gch hg k_o0 (by decide) 1 (by decide) rfl rfl
  refine lv_aload_n X.1 X.2.1 dX0_copyFrom_4 rfl (lv_at hl 1 rfl) ?_
  refine r_getr (N := 6) (T := TX0) X K w iX0_copyFrom_0 k_o1 rfl (by decide) 1 (by decide) rfl rfl (List.mem_of_getElem? (i := 1) rfl) dX0_copyFrom_5 ?_
  have k2 : gk g (o1 + 1) = 4 := gch hg k_o1 (by decide) 1 (by decide) rfl rfl
  refine q_v (x_V (As := [.ref (ad (o1 + 1))]) (rest := []) X K w (c_X4_copyFrom hg k1 k2 h) (cwV 1 X.2.2.2.2 gX0_copyFrom_X4_copyFrom rfl rfl rfl (by decide +kernel) ⟨Nat.le_of_ble_eq_true rfl, Nat.le_of_ble_eq_true rfl⟩) k1 (by decide) rfl rfl hl rfl (Nat.le_of_ble_eq_true rfl) dX0_copyFrom_8 ⟨Nat.le_of_ble_eq_true rfl, Nat.le_of_ble_eq_true rfl⟩) w (fun M3 H locs h w => ?_)
  refine lv_aload_n X.1 X.2.1 dX0_copyFrom_11 rfl (lv_at hl 0 rfl) ?_
  refine r_getr (N := 6) (T := TX0) X K w iX0_copyFrom_0 k_o0 rfl (by decide) 2 (by decide) rfl rfl (List.mem_of_getElem? (i := 2) rfl) dX0_copyFrom_12 ?_
  have k4 : gk g (o0 + 3) = 4 := gch hg k_o0 (by decide) 2 (by decide) rfl rfl
  refine lv_aload_n X.1 X.2.1 dX0_copyFrom_15 rfl (lv_at hl 1 rfl) ?_
  refine r_getr (N := 6) (T := TX0) X K w iX0_copyFrom_0 k_o1 rfl (by decide) 2 (by decide) rfl rfl (List.mem_of_getElem? (i := 2) rfl) dX0_copyFrom_16 ?_
  have k5 : gk g (o1 + 3) = 4 := gch hg k_o1 (by decide) 2 (by decide) rfl rfl
  refine q_v (x_V (As := [.ref (ad (o1 + 3))]) (rest := []) X K w (c_X4_copyFrom hg k4 k5 h) (cwV 1 X.2.2.2.2 gX0_copyFrom_X4_copyFrom rfl rfl rfl (by decide +kernel) ⟨Nat.le_of_ble_eq_true rfl, Nat.le_of_ble_eq_true rfl⟩) k4 (by decide) rfl rfl hl rfl (Nat.le_of_ble_eq_true rfl) dX0_copyFrom_19 ⟨Nat.le_of_ble_eq_true rfl, Nat.le_of_ble_eq_true rfl⟩) w (fun M6 H locs h w => ?_)
  refine lv_aload_n X.1 X.2.1 dX0_copyFrom_22 rfl (lv_at hl 0 rfl) ?_
  refine r_getr (N := 6) (T := TX0) X K w iX0_copyFrom_0 k_o0 rfl (by decide) 3 (by decide) rfl rfl (List.mem_of_getElem? (i := 3) rfl) dX0_copyFrom_23 ?_
  have k7 : gk g (o0 + 5) = 4 := gch hg k_o0 (by decide) 3 (by decide) rfl rfl
  refine lv_aload_n X.1 X.2.1 dX0_copyFrom_26 rfl (lv_at hl 1 rfl) ?_
  refine r_getr (N := 6) (T := TX0) X K w iX0_copyFrom_0 k_o1 rfl (by decide) 3 (by decide) rfl rfl (List.mem_of_getElem? (i := 3) rfl) dX0_copyFrom_27 ?_
  have k8 : gk g (o1 + 5) = 4 := gch hg k_o1 (by decide) 3 (by decide) rfl rfl
  refine q_v (x_V (As := [.ref (ad (o1 + 5))]) (rest := []) X K w (c_X4_copyFrom hg k7 k8 h) (cwV 1 X.2.2.2.2 gX0_copyFrom_X4_copyFrom rfl rfl rfl (by decide +kernel) ⟨Nat.le_of_ble_eq_true rfl, Nat.le_of_ble_eq_true rfl⟩) k7 (by decide) rfl rfl hl rfl (Nat.le_of_ble_eq_true rfl) dX0_copyFrom_30 ⟨Nat.le_of_ble_eq_true rfl, Nat.le_of_ble_eq_true rfl⟩) w (fun M9 H locs h w => ?_)
  refine lv_aload_n X.1 X.2.1 dX0_copyFrom_33 rfl (lv_at hl 0 rfl) ?_
  refine r_getr (N := 6) (T := TX0) X K w iX0_copyFrom_0 k_o0 rfl (by decide) 4 (by decide) rfl rfl (List.mem_of_getElem? (i := 4) rfl) dX0_copyFrom_34 ?_
  have k10 : gk g (o0 + 7) = 4 := gch hg k_o0 (by decide) 4 (by decide) rfl rfl
  refine lv_aload_n X.1 X.2.1 dX0_copyFrom_37 rfl (lv_at hl 1 rfl) ?_
  refine r_getr (N := 6) (T := TX0) X K w iX0_copyFrom_0 k_o1 rfl (by decide) 4 (by decide) rfl rfl (List.mem_of_getElem? (i := 4) rfl) dX0_copyFrom_38 ?_
  have k11 : gk g (o1 + 7) = 4 := gch hg k_o1 (by decide) 4 (by decide) rfl rfl
  refine q_v (x_V (As := [.ref (ad (o1 + 7))]) (rest := []) X K w (c_X4_copyFrom hg k10 k11 h) (cwV 1 X.2.2.2.2 gX0_copyFrom_X4_copyFrom rfl rfl rfl (by decide +kernel) ⟨Nat.le_of_ble_eq_true rfl, Nat.le_of_ble_eq_true rfl⟩) k10 (by decide) rfl rfl hl rfl (Nat.le_of_ble_eq_true rfl) dX0_copyFrom_41 ⟨Nat.le_of_ble_eq_true rfl, Nat.le_of_ble_eq_true rfl⟩) w (fun M12 H locs h w => ?_)
  refine lv_aload_n X.1 X.2.1 dX0_copyFrom_44 rfl (lv_at hl 0 rfl) ?_
  refine lv_aload_n X.1 X.2.1 dX0_copyFrom_45 rfl (lv_at hl 1 rfl) ?_
  refine r_geti (N := 6) (T := TX0) (kz := 5) X K w iX0_copyFrom_0 k_o1 rfl (by decide) 5 (by decide) rfl rfl rfl (List.mem_of_getElem? (i := 5) rfl) dX0_copyFrom_46 ?_
  refine lv_aload_n X.1 X.2.1 dX0_copyFrom_49 rfl (lv_at hl 0 rfl) ?_
  refine r_geti (N := 6) (T := TX0) (kz := 0) X K w iX0_copyFrom_0 k_o0 rfl (by decide) 0 (by decide) rfl rfl rfl (List.mem_of_getElem? (i := 6) rfl) dX0_copyFrom_50 ?_
  obtain ⟨i0, i1, h⟩ := h
  refine r_min X hl i0 i1 (List.mem_of_getElem? (i := 7) rfl) (List.mem_of_getElem? (i := 8) rfl) (List.mem_of_getElem? (i := 9) rfl) (List.mem_of_getElem? (i := 10) rfl) (by decide) (Nat.le_of_ble_eq_true rfl) ⟨by decide, by decide⟩ dX0_copyFrom_53 ?_
  refine r_puti (N := 6) (T := TX0) (kz := 5) (ty := .int) X K w iX0_copyFrom_0 tyX0 tyX0_ok nmX0 k_o0 rfl (by decide) 5 (by decide) rfl rfl rfl rfl (by decide +kernel) rfl rfl (List.mem_of_getElem? (i := 5) rfl) dX0_copyFrom_56 (fun M13 H locs e w => ?_)
  replace h := h M13 e
  exact r_return X hr hlk K w h dX0_copyFrom_59
theorem dX4_get_0 : decode cX4_get 0 = .ok (.iload_n 1, 1) := by decide +kernel
theorem dX4_get_1 : decode cX4_get 1 = .ok (.ifCond .lt 21, 3) := by decide +kernel
theorem dX4_get_4 : decode cX4_get 4 = .ok (.iload_n 1, 1) := by decide +kernel
theorem dX4_get_5 : decode cX4_get 5 = .ok (.aload_n 0, 1) := by decide +kernel
theorem dX4_get_6 : decode cX4_get 6 = .ok (.getfield 13, 3) := by decide +kernel
theorem dX4_get_9 : decode cX4_get 9 = .ok (.arraylength, 1) := by decide +kernel
theorem dX4_get_10 : decode cX4_get 10 = .ok (.if_icmp .ge 12, 3) := by decide +kernel
theorem dX4_get_13 : decode cX4_get 13 = .ok (.aload_n 0, 1) := by decide +kernel
theorem dX4_get_14 : decode cX4_get 14 = .ok (.getfield 13, 3) := by decide +kernel
theorem dX4_get_17 : decode cX4_get 17 = .ok (.iload_n 1, 1) := by decide +kernel
theorem dX4_get_18 : decode cX4_get 18 = .ok (.iaload, 1) := by decide +kernel
theorem dX4_get_19 : decode cX4_get 19 = .ok (.goto 4, 3) := by decide +kernel
theorem dX4_get_22 : decode cX4_get 22 = .ok (.iconst 0, 1) := by decide +kernel
theorem dX4_get_23 : decode cX4_get 23 = .ok (.ireturn, 1) := by decide +kernel
theorem iX4_get_4 : ∀ w ∈ u_ws RX4 TX4 1, w ∈ wsX4_get := fun w h => List.mem_cons_of_mem _ (List.mem_append_right _ (h))
set_option maxHeartbeats 4000000 in
set_option maxRecDepth 100000 in
theorem c_X4_get {E : EE} {l : Launch} {g : GG} {ad : Nat → Nat} (hg : gwf g) {o0 : Nat} {x1 : Int} {M : Mm} {Q : Int → Mm → Prop} (k_o0 : gk g o0 = 4) (h : p_X4_get g o0 x1 M Q) : Ct E l yX4_get wsX4_get rmX4_get g ad [.ref (ad o0), cI x1] M (QI E g ad Q) := by
  refine ent (cc := cX4_get) (maxL := 2) (ret := (some .int)) (own := RX4) (by decide +kernel) rfl rfl (Nat.le_of_ble_eq_true rfl) ?_
  intro p e s m below meth c ls X hr hlk K w hl
  have hl : lv_has ls 2 [(0, .ref (ad o0)), (1, cI x1)] := hl
  unfold p_X4_get at h
  refine lv_iload_n X.1 X.2.1 dX4_get_0 rfl (lv_at hl 1 rfl) ?_
  obtain ⟨i0, h1, h2⟩ := h
  refine r_if_lt (tgt := 22) X i0 dX4_get_1 (by decide) (fun cc => ?_) (fun cc => ?_)
  · have h := h1 cc
    refine r_iconst X dX4_get_22 ?_
    exact r_ireturn X hr hlk K w h dX4_get_23
  · have h := h2 cc
    refine lv_iload_n X.1 X.2.1 dX4_get_4 rfl (lv_at hl 1 rfl) ?_
    refine lv_aload_n X.1 X.2.1 dX4_get_5 rfl (lv_at hl 0 rfl) ?_
    refine r_getr (N := 1) (T := TX4) X K w iX4_get_4 k_o0 rfl (by decide) 0 (by decide) rfl rfl (List.mem_of_getElem? (i := 1) rfl) dX4_get_6 ?_
    have k1 : gk g (o0 + 1) = 9 := gch hg k_o0 (by decide) 0 (by decide) rfl rfl
    refine r_alen X K w k1 dX4_get_9 ?_
    obtain ⟨i0, h1, h2⟩ := h
    refine r_icmp_ge (tgt := 22) X i0 (inR_n (hg.2 _)) dX4_get_10 (by decide) (fun cc => ?_) (fun cc => ?_)
    · have h := h1 cc
      refine r_iconst X dX4_get_22 ?_
      exact r_ireturn X hr hlk K w h dX4_get_23
    · have h := h2 cc
      refine lv_aload_n X.1 X.2.1 dX4_get_13 rfl (lv_at hl 0 rfl) ?_
      refine r_getr (N := 1) (T := TX4) X K w iX4_get_4 k_o0 rfl (by decide) 0 (by decide) rfl rfl (List.mem_of_getElem? (i := 1) rfl) dX4_get_14 ?_
      have k2 : gk g (o0 + 1) = 9 := gch hg k_o0 (by decide) 0 (by decide) rfl rfl
      refine lv_iload_n X.1 X.2.1 dX4_get_17 rfl (lv_at hl 1 rfl) ?_
      obtain ⟨b0, b1, h⟩ := h
      refine r_iald X K w hg k2 b0 b1 dX4_get_18 ?_
      refine lv_goto (tgt := 23) X.1 X.2.1 dX4_get_19 (by decide) ?_
      exact r_ireturn X hr hlk K w h dX4_get_23
theorem dX0_endOf_0 : decode cX0_endOf 0 = .ok (.aload_n 0, 1) := by decide +kernel
theorem dX0_endOf_1 : decode cX0_endOf 1 = .ok (.getfield 23, 3) := by decide +kernel
theorem dX0_endOf_4 : decode cX0_endOf 4 = .ok (.iload_n 1, 1) := by decide +kernel
theorem dX0_endOf_5 : decode cX0_endOf 5 = .ok (.invokevirtual 46, 3) := by decide +kernel
theorem dX0_endOf_8 : decode cX0_endOf 8 = .ok (.aload_n 0, 1) := by decide +kernel
theorem dX0_endOf_9 : decode cX0_endOf 9 = .ok (.getfield 33, 3) := by decide +kernel
theorem dX0_endOf_12 : decode cX0_endOf 12 = .ok (.iload_n 1, 1) := by decide +kernel
theorem dX0_endOf_13 : decode cX0_endOf 13 = .ok (.invokevirtual 46, 3) := by decide +kernel
theorem dX0_endOf_16 : decode cX0_endOf 16 = .ok (.iadd, 1) := by decide +kernel
theorem dX0_endOf_17 : decode cX0_endOf 17 = .ok (.ireturn, 1) := by decide +kernel
set_option maxRecDepth 20000 in
theorem ggX0_endOf_X4_get : GoodIn wsX0_endOf wsX4_get := goodIn_r _ [7, 8, 15] (by decide +kernel) (by decide +kernel)
set_option maxRecDepth 20000 in
theorem gX0_endOf_X4_get : GoodIn wsX0_endOf (wsV RX0 46 RX4 yX4_get wsX4_get) := goodIn_app (goodIn_of _ (by decide +kernel)) ggX0_endOf_X4_get
theorem iX0_endOf_0 : ∀ w ∈ u_ws RX0 TX0 6, w ∈ wsX0_endOf := fun w h => List.mem_cons_of_mem _ (List.mem_append_left _ (List.mem_append_right _ (h)))
set_option maxHeartbeats 4000000 in
set_option maxRecDepth 100000 in
theorem c_X0_endOf {E : EE} {l : Launch} {g : GG} {ad : Nat → Nat} (hg : gwf g) {o0 : Nat} {x1 : Int} {M : Mm} {Q : Int → Mm → Prop} (k_o0 : gk g o0 = 0) (h : p_X0_endOf g o0 x1 M Q) : Ct E l yX0_endOf wsX0_endOf rmX0_endOf g ad [.ref (ad o0), cI x1] M (QI E g ad Q) := by
  refine ent (cc := cX0_endOf) (maxL := 2) (ret := (some .int)) (own := RX0) (by decide +kernel) rfl rfl (Nat.le_of_ble_eq_true rfl) ?_
  intro p e s m below meth c ls X hr hlk K w hl
  have hl : lv_has ls 2 [(0, .ref (ad o0)), (1, cI x1)] := hl
  unfold p_X0_endOf at h
  refine lv_aload_n X.1 X.2.1 dX0_endOf_0 rfl (lv_at hl 0 rfl) ?_
  refine r_getr (N := 6) (T := TX0) X K w iX0_endOf_0 k_o0 rfl (by decide) 1 (by decide) rfl rfl (List.mem_of_getElem? (i := 1) rfl) dX0_endOf_1 ?_
  have k1 : gk g (o0 + 1) = 4 := gch hg k_o0 (by decide) 1 (by decide) rfl rfl
  refine lv_iload_n X.1 X.2.1 dX0_endOf_4 rfl (lv_at hl 1 rfl) ?_
  refine q_i (x_V (As := [cI x1]) (rest := []) X K w (c_X4_get hg k1 h) (cwV 1 X.2.2.2.2 gX0_endOf_X4_get rfl rfl rfl (by decide +kernel) ⟨Nat.le_of_ble_eq_true rfl, Nat.le_of_ble_eq_true rfl⟩) k1 (by decide) rfl rfl hl rfl (Nat.le_of_ble_eq_true rfl) dX0_endOf_5 ⟨Nat.le_of_ble_eq_true rfl, Nat.le_of_ble_eq_true rfl⟩) w (fun r3 M2 H locs h w => ?_)
  refine lv_aload_n X.1 X.2.1 dX0_endOf_8 rfl (lv_at hl 0 rfl) ?_
  refine r_getr (N := 6) (T := TX0) X K w iX0_endOf_0 k_o0 rfl (by decide) 4 (by decide) rfl rfl (List.mem_of_getElem? (i := 2) rfl) dX0_endOf_9 ?_
  have k4 : gk g (o0 + 7) = 4 := gch hg k_o0 (by decide) 4 (by decide) rfl rfl
  refine lv_iload_n X.1 X.2.1 dX0_endOf_12 rfl (lv_at hl 1 rfl) ?_
  refine q_i (x_V (As := [cI x1]) (rest := [cI r3]) X K w (c_X4_get hg k4 h) (cwV 1 X.2.2.2.2 gX0_endOf_X4_get rfl rfl rfl (by decide +kernel) ⟨Nat.le_of_ble_eq_true rfl, Nat.le_of_ble_eq_true rfl⟩) k4 (by decide) rfl rfl hl rfl (Nat.le_of_ble_eq_true rfl) dX0_endOf_13 ⟨Nat.le_of_ble_eq_true rfl, Nat.le_of_ble_eq_true rfl⟩) w (fun r6 M5 H locs h w => ?_)
  refine r_iadd X dX0_endOf_16 ?_
  exact r_ireturn X hr hlk K w h dX0_endOf_17
theorem dX0_has_0 : decode cX0_has 0 = .ok (.iconst 0, 1) := by decide +kernel
theorem dX0_has_1 : decode cX0_has 1 = .ok (.istore 4, 2) := by decide +kernel
theorem dX0_has_3 : decode cX0_has 3 = .ok (.iload 4, 2) := by decide +kernel
theorem dX0_has_5 : decode cX0_has 5 = .ok (.aload_n 0, 1) := by decide +kernel
theorem dX0_has_6 : decode cX0_has 6 = .ok (.getfield 9, 3) := by decide +kernel
theorem dX0_has_9 : decode cX0_has 9 = .ok (.if_icmp .ge 50, 3) := by decide +kernel
theorem dX0_has_12 : decode cX0_has 12 = .ok (.aload_n 0, 1) := by decide +kernel
theorem dX0_has_13 : decode cX0_has 13 = .ok (.getfield 27, 3) := by decide +kernel
theorem dX0_has_16 : decode cX0_has 16 = .ok (.iload 4, 2) := by decide +kernel
theorem dX0_has_18 : decode cX0_has 18 = .ok (.invokevirtual 46, 3) := by decide +kernel
theorem dX0_has_21 : decode cX0_has 21 = .ok (.iload_n 1, 1) := by decide +kernel
theorem dX0_has_22 : decode cX0_has 22 = .ok (.if_icmp .ne 31, 3) := by decide +kernel
theorem dX0_has_25 : decode cX0_has 25 = .ok (.aload_n 0, 1) := by decide +kernel
theorem dX0_has_26 : decode cX0_has 26 = .ok (.getfield 23, 3) := by decide +kernel
theorem dX0_has_29 : decode cX0_has 29 = .ok (.iload 4, 2) := by decide +kernel
theorem dX0_has_31 : decode cX0_has 31 = .ok (.invokevirtual 46, 3) := by decide +kernel
theorem dX0_has_34 : decode cX0_has 34 = .ok (.iload_n 2, 1) := by decide +kernel
theorem dX0_has_35 : decode cX0_has 35 = .ok (.if_icmp .ne 18, 3) := by decide +kernel
theorem dX0_has_38 : decode cX0_has 38 = .ok (.aload_n 0, 1) := by decide +kernel
theorem dX0_has_39 : decode cX0_has 39 = .ok (.getfield 30, 3) := by decide +kernel
theorem dX0_has_42 : decode cX0_has 42 = .ok (.iload 4, 2) := by decide +kernel
theorem dX0_has_44 : decode cX0_has 44 = .ok (.invokevirtual 46, 3) := by decide +kernel
theorem dX0_has_47 : decode cX0_has 47 = .ok (.iload_n 3, 1) := by decide +kernel
theorem dX0_has_48 : decode cX0_has 48 = .ok (.if_icmp .ne 5, 3) := by decide +kernel
theorem dX0_has_51 : decode cX0_has 51 = .ok (.iconst 1, 1) := by decide +kernel
theorem dX0_has_52 : decode cX0_has 52 = .ok (.ireturn, 1) := by decide +kernel
theorem dX0_has_53 : decode cX0_has 53 = .ok (.iinc 4 1, 3) := by decide +kernel
theorem dX0_has_56 : decode cX0_has 56 = .ok (.goto (-53), 3) := by decide +kernel
theorem dX0_has_59 : decode cX0_has 59 = .ok (.iconst 0, 1) := by decide +kernel
theorem dX0_has_60 : decode cX0_has 60 = .ok (.ireturn, 1) := by decide +kernel
set_option maxRecDepth 20000 in
theorem ggX0_has_X4_get : GoodIn wsX0_has wsX4_get := goodIn_r _ [9, 10, 17] (by decide +kernel) (by decide +kernel)
set_option maxRecDepth 20000 in
theorem gX0_has_X4_get : GoodIn wsX0_has (wsV RX0 46 RX4 yX4_get wsX4_get) := goodIn_app (goodIn_of _ (by decide +kernel)) ggX0_has_X4_get
theorem iX0_has_0 : ∀ w ∈ u_ws RX0 TX0 6, w ∈ wsX0_has := fun w h => List.mem_cons_of_mem _ (List.mem_append_left _ (List.mem_append_right _ (h)))
set_option maxHeartbeats 4000000 in
set_option maxRecDepth 100000 in
theorem w_X0_has_L3 {p : Program} {l : Launch} {e : Env} {s : State} {m : MethodId} {args : Array Value} {below : List Frame} {meth : Method} {c : Code} {E : EE} {g : GG} {ad : Nat → Nat} (hg : gwf g) (X : CallFix p m c cX0_has 5 s args wsX0_has RX0) (K : Kn E s) (hr : meth.sig.returnType = (some .boolean)) (hlk : meth.locks = false) {Q : Int → Mm → Prop} : ∀ (n : Nat) (o0 : Nat) (x1 : Int) (x2 : Int) (x3 : Int) (x4 : Int) (M : Mm) (H : Heap) (locs : List Loc) (ls : Array Slot), gk g o0 = 0 → Rw E g ad M s.heap H locs → lv_has ls 5 [(0, .ref (ad o0)), (1, cI x1), (2, cI x2), (3, cI x3), (4, cI x4)] → p_X0_has_L3 g n o0 x1 x2 x3 x4 M Q → W p l e rmX0_has s m args below meth c H locs 0 0 (MQ below (QI E g ad Q) args s 0 0 (Rg g ad)) (F0 m 3 ls []) := by
  intro n
  induction n with
  | zero =>
    intro o0 x1 x2 x3 x4 M H locs ls k_o0 w hl h
    exact absurd h (by unfold p_X0_has_L3; exact id)
  | succ n ih =>
    intro o0 x1 x2 x3 x4 M H locs ls k_o0 w hl h
    unfold p_X0_has_L3 at h
    refine lv_iload X.1 X.2.1 dX0_has_3 (lv_at hl 4 rfl) ?_
    refine lv_aload_n X.1 X.2.1 dX0_has_5 rfl (lv_at hl 0 rfl) ?_
    refine r_geti (N := 6) (T := TX0) (kz := 5) X K w iX0_has_0 k_o0 rfl (by decide) 5 (by decide) rfl rfl rfl (List.mem_of_getElem? (i := 1) rfl) dX0_has_6 ?_
    obtain ⟨i0, i1, h1, h2⟩ := h
    refine r_icmp_ge (tgt := 59) X i0 i1 dX0_has_9 (by decide) (fun cc => ?_) (fun cc => ?_)
    · have h := h1 cc
      refine r_iconst X dX0_has_59 ?_
      exact r_zreturn X hr hlk K w (by decide +kernel) h dX0_has_60
    · have h := h2 cc
      refine lv_aload_n X.1 X.2.1 dX0_has_12 rfl (lv_at hl 0 rfl) ?_
      refine r_getr (N := 6) (T := TX0) X K w iX0_has_0 k_o0 rfl (by decide) 2 (by decide) rfl rfl (List.mem_of_getElem? (i := 2) rfl) dX0_has_13 ?_
      have k1 : gk g (o0 + 3) = 4 := gch hg k_o0 (by decide) 2 (by decide) rfl rfl
      refine lv_iload X.1 X.2.1 dX0_has_16 (lv_at hl 4 rfl) ?_
      refine q_i (x_V (As := [cI x4]) (rest := []) X K w (c_X4_get hg k1 h) (cwV 1 X.2.2.2.2 gX0_has_X4_get rfl rfl rfl (by decide +kernel) ⟨Nat.le_of_ble_eq_true rfl, Nat.le_of_ble_eq_true rfl⟩) k1 (by decide) rfl rfl hl rfl (Nat.le_of_ble_eq_true rfl) dX0_has_18 ⟨Nat.le_of_ble_eq_true rfl, Nat.le_of_ble_eq_true rfl⟩) w (fun r3 M2 H locs h w => ?_)
      refine lv_iload_n X.1 X.2.1 dX0_has_21 rfl (lv_at hl 1 rfl) ?_
      obtain ⟨i0, i1, h1, h2⟩ := h
      refine r_icmp_ne (tgt := 53) X i0 i1 dX0_has_22 (by decide) (fun cc => ?_) (fun cc => ?_)
      · have h := h1 cc
        refine r_iinc (lv' := [(4, cI (x4 + 1)), (0, .ref (ad o0)), (1, cI x1), (2, cI x2), (3, cI x3)]) X hl (k := 4) rfl (by decide) dX0_has_53 rfl (fun ls hl => ?_)
        refine lv_goto (tgt := 3) X.1 X.2.1 dX0_has_56 (by decide) ?_
        exact ih o0 x1 x2 x3 (x4 + 1) M2 _ _ _ k_o0 w (lv_sub hl [1, 2, 3, 4, 0] rfl) h
      · have h := h2 cc
        refine lv_aload_n X.1 X.2.1 dX0_has_25 rfl (lv_at hl 0 rfl) ?_
        refine r_getr (N := 6) (T := TX0) X K w iX0_has_0 k_o0 rfl (by decide) 1 (by decide) rfl rfl (List.mem_of_getElem? (i := 3) rfl) dX0_has_26 ?_
        have k4 : gk g (o0 + 1) = 4 := gch hg k_o0 (by decide) 1 (by decide) rfl rfl
        refine lv_iload X.1 X.2.1 dX0_has_29 (lv_at hl 4 rfl) ?_
        refine q_i (x_V (As := [cI x4]) (rest := []) X K w (c_X4_get hg k4 h) (cwV 1 X.2.2.2.2 gX0_has_X4_get rfl rfl rfl (by decide +kernel) ⟨Nat.le_of_ble_eq_true rfl, Nat.le_of_ble_eq_true rfl⟩) k4 (by decide) rfl rfl hl rfl (Nat.le_of_ble_eq_true rfl) dX0_has_31 ⟨Nat.le_of_ble_eq_true rfl, Nat.le_of_ble_eq_true rfl⟩) w (fun r6 M5 H locs h w => ?_)
        refine lv_iload_n X.1 X.2.1 dX0_has_34 rfl (lv_at hl 2 rfl) ?_
        obtain ⟨i0, i1, h1, h2⟩ := h
        refine r_icmp_ne (tgt := 53) X i0 i1 dX0_has_35 (by decide) (fun cc => ?_) (fun cc => ?_)
        · have h := h1 cc
          refine r_iinc (lv' := [(4, cI (x4 + 1)), (0, .ref (ad o0)), (1, cI x1), (2, cI x2), (3, cI x3)]) X hl (k := 4) rfl (by decide) dX0_has_53 rfl (fun ls hl => ?_)
          refine lv_goto (tgt := 3) X.1 X.2.1 dX0_has_56 (by decide) ?_
          exact ih o0 x1 x2 x3 (x4 + 1) M5 _ _ _ k_o0 w (lv_sub hl [1, 2, 3, 4, 0] rfl) h
        · have h := h2 cc
          refine lv_aload_n X.1 X.2.1 dX0_has_38 rfl (lv_at hl 0 rfl) ?_
          refine r_getr (N := 6) (T := TX0) X K w iX0_has_0 k_o0 rfl (by decide) 3 (by decide) rfl rfl (List.mem_of_getElem? (i := 4) rfl) dX0_has_39 ?_
          have k7 : gk g (o0 + 5) = 4 := gch hg k_o0 (by decide) 3 (by decide) rfl rfl
          refine lv_iload X.1 X.2.1 dX0_has_42 (lv_at hl 4 rfl) ?_
          refine q_i (x_V (As := [cI x4]) (rest := []) X K w (c_X4_get hg k7 h) (cwV 1 X.2.2.2.2 gX0_has_X4_get rfl rfl rfl (by decide +kernel) ⟨Nat.le_of_ble_eq_true rfl, Nat.le_of_ble_eq_true rfl⟩) k7 (by decide) rfl rfl hl rfl (Nat.le_of_ble_eq_true rfl) dX0_has_44 ⟨Nat.le_of_ble_eq_true rfl, Nat.le_of_ble_eq_true rfl⟩) w (fun r9 M8 H locs h w => ?_)
          refine lv_iload_n X.1 X.2.1 dX0_has_47 rfl (lv_at hl 3 rfl) ?_
          obtain ⟨i0, i1, h1, h2⟩ := h
          refine r_icmp_ne (tgt := 53) X i0 i1 dX0_has_48 (by decide) (fun cc => ?_) (fun cc => ?_)
          · have h := h1 cc
            refine r_iinc (lv' := [(4, cI (x4 + 1)), (0, .ref (ad o0)), (1, cI x1), (2, cI x2), (3, cI x3)]) X hl (k := 4) rfl (by decide) dX0_has_53 rfl (fun ls hl => ?_)
            refine lv_goto (tgt := 3) X.1 X.2.1 dX0_has_56 (by decide) ?_
            exact ih o0 x1 x2 x3 (x4 + 1) M8 _ _ _ k_o0 w (lv_sub hl [1, 2, 3, 4, 0] rfl) h
          · have h := h2 cc
            refine r_iconst X dX0_has_51 ?_
            exact r_zreturn X hr hlk K w (by decide +kernel) h dX0_has_52
set_option maxHeartbeats 4000000 in
set_option maxRecDepth 100000 in
theorem c_X0_has {E : EE} {l : Launch} {g : GG} {ad : Nat → Nat} (hg : gwf g) {o0 : Nat} {x1 : Int} {x2 : Int} {x3 : Int} {M : Mm} {Q : Int → Mm → Prop} (k_o0 : gk g o0 = 0) (h : p_X0_has g o0 x1 x2 x3 M Q) : Ct E l yX0_has wsX0_has rmX0_has g ad [.ref (ad o0), cI x1, cI x2, cI x3] M (QI E g ad Q) := by
  refine ent (cc := cX0_has) (maxL := 5) (ret := (some .boolean)) (own := RX0) (by decide +kernel) rfl rfl (Nat.le_of_ble_eq_true rfl) ?_
  intro p e s m below meth c ls X hr hlk K w hl
  have hl : lv_has ls 5 [(0, .ref (ad o0)), (1, cI x1), (2, cI x2), (3, cI x3)] := hl
  unfold p_X0_has at h
  refine r_iconst X dX0_has_0 ?_
  refine lv_istore (lv' := [(4, cI 0), (0, .ref (ad o0)), (1, cI x1), (2, cI x2), (3, cI x3)]) X.1 X.2.1 dX0_has_1 hl (by decide) rfl (fun ls hl => ?_)
  obtain ⟨n10, h⟩ := h
  exact w_X0_has_L3 hg X K hr hlk n10 o0 x1 x2 x3 0 M _ _ _ k_o0 w (lv_sub hl [1, 2, 3, 4, 0] rfl) h
theorem dX4_put_0 : decode cX4_put 0 = .ok (.iload_n 1, 1) := by decide +kernel
theorem dX4_put_1 : decode cX4_put 1 = .ok (.ifCond .lt 19, 3) := by decide +kernel
theorem dX4_put_4 : decode cX4_put 4 = .ok (.iload_n 1, 1) := by decide +kernel
theorem dX4_put_5 : decode cX4_put 5 = .ok (.aload_n 0, 1) := by decide +kernel
theorem dX4_put_6 : decode cX4_put 6 = .ok (.getfield 13, 3) := by decide +kernel
theorem dX4_put_9 : decode cX4_put 9 = .ok (.arraylength, 1) := by decide +kernel
theorem dX4_put_10 : decode cX4_put 10 = .ok (.if_icmp .ge 10, 3) := by decide +kernel
theorem dX4_put_13 : decode cX4_put 13 = .ok (.aload_n 0, 1) := by decide +kernel
theorem dX4_put_14 : decode cX4_put 14 = .ok (.getfield 13, 3) := by decide +kernel
theorem dX4_put_17 : decode cX4_put 17 = .ok (.iload_n 1, 1) := by decide +kernel
theorem dX4_put_18 : decode cX4_put 18 = .ok (.iload_n 2, 1) := by decide +kernel
theorem dX4_put_19 : decode cX4_put 19 = .ok (.iastore, 1) := by decide +kernel
theorem dX4_put_20 : decode cX4_put 20 = .ok (.return_, 1) := by decide +kernel
theorem iX4_put_4 : ∀ w ∈ u_ws RX4 TX4 1, w ∈ wsX4_put := fun w h => List.mem_cons_of_mem _ (List.mem_append_right _ (h))
set_option maxHeartbeats 4000000 in
set_option maxRecDepth 100000 in
theorem c_X4_put {E : EE} {l : Launch} {g : GG} {ad : Nat → Nat} (hg : gwf g) {o0 : Nat} {x1 : Int} {x2 : Int} {M : Mm} {Q : Mm → Prop} (k_o0 : gk g o0 = 4) (h : p_X4_put g o0 x1 x2 M Q) : Ct E l yX4_put wsX4_put rmX4_put g ad [.ref (ad o0), cI x1, cI x2] M (QV E g ad Q) := by
  refine ent (cc := cX4_put) (maxL := 3) (ret := none) (own := RX4) (by decide +kernel) rfl rfl (Nat.le_of_ble_eq_true rfl) ?_
  intro p e s m below meth c ls X hr hlk K w hl
  have hl : lv_has ls 3 [(0, .ref (ad o0)), (1, cI x1), (2, cI x2)] := hl
  unfold p_X4_put at h
  refine lv_iload_n X.1 X.2.1 dX4_put_0 rfl (lv_at hl 1 rfl) ?_
  obtain ⟨i0, h1, h2⟩ := h
  refine r_if_lt (tgt := 20) X i0 dX4_put_1 (by decide) (fun cc => ?_) (fun cc => ?_)
  · have h := h1 cc
    exact r_return X hr hlk K w h dX4_put_20
  · have h := h2 cc
    refine lv_iload_n X.1 X.2.1 dX4_put_4 rfl (lv_at hl 1 rfl) ?_
    refine lv_aload_n X.1 X.2.1 dX4_put_5 rfl (lv_at hl 0 rfl) ?_
    refine r_getr (N := 1) (T := TX4) X K w iX4_put_4 k_o0 rfl (by decide) 0 (by decide) rfl rfl (List.mem_of_getElem? (i := 1) rfl) dX4_put_6 ?_
    have k1 : gk g (o0 + 1) = 9 := gch hg k_o0 (by decide) 0 (by decide) rfl rfl
    refine r_alen X K w k1 dX4_put_9 ?_
    obtain ⟨i0, h1, h2⟩ := h
    refine r_icmp_ge (tgt := 20) X i0 (inR_n (hg.2 _)) dX4_put_10 (by decide) (fun cc => ?_) (fun cc => ?_)
    · have h := h1 cc
      exact r_return X hr hlk K w h dX4_put_20
    · have h := h2 cc
      refine lv_aload_n X.1 X.2.1 dX4_put_13 rfl (lv_at hl 0 rfl) ?_
      refine r_getr (N := 1) (T := TX4) X K w iX4_put_4 k_o0 rfl (by decide) 0 (by decide) rfl rfl (List.mem_of_getElem? (i := 1) rfl) dX4_put_14 ?_
      have k2 : gk g (o0 + 1) = 9 := gch hg k_o0 (by decide) 0 (by decide) rfl rfl
      refine lv_iload_n X.1 X.2.1 dX4_put_17 rfl (lv_at hl 1 rfl) ?_
      refine lv_iload_n X.1 X.2.1 dX4_put_18 rfl (lv_at hl 2 rfl) ?_
      obtain ⟨b0, b1, h⟩ := h
      refine r_iast X K w hg k2 b0 b1 dX4_put_19 (fun M3 H locs e w => ?_)
      replace h := h M3 e
      exact r_return X hr hlk K w h dX4_put_20
theorem dX0_append_0 : decode cX0_append 0 = .ok (.aload_n 0, 1) := by decide +kernel
theorem dX0_append_1 : decode cX0_append 1 = .ok (.getfield 9, 3) := by decide +kernel
theorem dX0_append_4 : decode cX0_append 4 = .ok (.aload_n 0, 1) := by decide +kernel
theorem dX0_append_5 : decode cX0_append 5 = .ok (.getfield 15, 3) := by decide +kernel
theorem dX0_append_8 : decode cX0_append 8 = .ok (.if_icmp .lt 4, 3) := by decide +kernel
theorem dX0_append_11 : decode cX0_append 11 = .ok (.return_, 1) := by decide +kernel
theorem dX0_append_12 : decode cX0_append 12 = .ok (.aload_n 0, 1) := by decide +kernel
theorem dX0_append_13 : decode cX0_append 13 = .ok (.getfield 27, 3) := by decide +kernel
theorem dX0_append_16 : decode cX0_append 16 = .ok (.aload_n 0, 1) := by decide +kernel
theorem dX0_append_17 : decode cX0_append 17 = .ok (.getfield 9, 3) := by decide +kernel
theorem dX0_append_20 : decode cX0_append 20 = .ok (.iload_n 1, 1) := by decide +kernel
theorem dX0_append_21 : decode cX0_append 21 = .ok (.invokevirtual 50, 3) := by decide +kernel
theorem dX0_append_24 : decode cX0_append 24 = .ok (.aload_n 0, 1) := by decide +kernel
theorem dX0_append_25 : decode cX0_append 25 = .ok (.getfield 23, 3) := by decide +kernel
theorem dX0_append_28 : decode cX0_append 28 = .ok (.aload_n 0, 1) := by decide +kernel
theorem dX0_append_29 : decode cX0_append 29 = .ok (.getfield 9, 3) := by decide +kernel
theorem dX0_append_32 : decode cX0_append 32 = .ok (.iload_n 2, 1) := by decide +kernel
theorem dX0_append_33 : decode cX0_append 33 = .ok (.invokevirtual 50, 3) := by decide +kernel
theorem dX0_append_36 : decode cX0_append 36 = .ok (.aload_n 0, 1) := by decide +kernel
theorem dX0_append_37 : decode cX0_append 37 = .ok (.getfield 30, 3) := by decide +kernel
theorem dX0_append_40 : decode cX0_append 40 = .ok (.aload_n 0, 1) := by decide +kernel
theorem dX0_append_41 : decode cX0_append 41 = .ok (.getfield 9, 3) := by decide +kernel
theorem dX0_append_44 : decode cX0_append 44 = .ok (.iload_n 3, 1) := by decide +kernel
theorem dX0_append_45 : decode cX0_append 45 = .ok (.invokevirtual 50, 3) := by decide +kernel
theorem dX0_append_48 : decode cX0_append 48 = .ok (.aload_n 0, 1) := by decide +kernel
theorem dX0_append_49 : decode cX0_append 49 = .ok (.getfield 33, 3) := by decide +kernel
theorem dX0_append_52 : decode cX0_append 52 = .ok (.aload_n 0, 1) := by decide +kernel
theorem dX0_append_53 : decode cX0_append 53 = .ok (.getfield 9, 3) := by decide +kernel
theorem dX0_append_56 : decode cX0_append 56 = .ok (.iload 4, 2) := by decide +kernel
theorem dX0_append_58 : decode cX0_append 58 = .ok (.invokevirtual 50, 3) := by decide +kernel
theorem dX0_append_61 : decode cX0_append 61 = .ok (.aload_n 0, 1) := by decide +kernel
theorem dX0_append_62 : decode cX0_append 62 = .ok (.dup, 1) := by decide +kernel
theorem dX0_append_63 : decode cX0_append 63 = .ok (.getfield 9, 3) := by decide +kernel
theorem dX0_append_66 : decode cX0_append 66 = .ok (.iconst 1, 1) := by decide +kernel
theorem dX0_append_67 : decode cX0_append 67 = .ok (.iadd, 1) := by decide +kernel
theorem dX0_append_68 : decode cX0_append 68 = .ok (.putfield 9, 3) := by decide +kernel
theorem dX0_append_71 : decode cX0_append 71 = .ok (.return_, 1) := by decide +kernel
set_option maxRecDepth 20000 in
theorem ggX0_append_X4_put : GoodIn wsX0_append wsX4_put := goodIn_r _ [11, 12, 19] (by decide +kernel) (by decide +kernel)
set_option maxRecDepth 20000 in
theorem gX0_append_X4_put : GoodIn wsX0_append (wsV RX0 50 RX4 yX4_put wsX4_put) := goodIn_app (goodIn_of _ (by decide +kernel)) ggX0_append_X4_put
theorem iX0_append_0 : ∀ w ∈ u_ws RX0 TX0 6, w ∈ wsX0_append := fun w h => List.mem_cons_of_mem _ (List.mem_append_left _ (List.mem_append_right _ (h)))
set_option maxHeartbeats 4000000 in
set_option maxRecDepth 100000 in
theorem c_X0_append {E : EE} {l : Launch} {g : GG} {ad : Nat → Nat} (hg : gwf g) {o0 : Nat} {x1 : Int} {x2 : Int} {x3 : Int} {x4 : Int} {M : Mm} {Q : Mm → Prop} (k_o0 : gk g o0 = 0) (h : p_X0_append g o0 x1 x2 x3 x4 M Q) : Ct E l yX0_append wsX0_append rmX0_append g ad [.ref (ad o0), cI x1, cI x2, cI x3, cI x4] M (QV E g ad Q) := by
  refine ent (cc := cX0_append) (maxL := 5) (ret := none) (own := RX0) (by decide +kernel) rfl rfl (Nat.le_of_ble_eq_true rfl) ?_
  intro p e s m below meth c ls X hr hlk K w hl
  have hl : lv_has ls 5 [(0, .ref (ad o0)), (1, cI x1), (2, cI x2), (3, cI x3), (4, cI x4)] := hl
  unfold p_X0_append at h
  refine lv_aload_n X.1 X.2.1 dX0_append_0 rfl (lv_at hl 0 rfl) ?_
  refine r_geti (N := 6) (T := TX0) (kz := 5) X K w iX0_append_0 k_o0 rfl (by decide) 5 (by decide) rfl rfl rfl (List.mem_of_getElem? (i := 1) rfl) dX0_append_1 ?_
  refine lv_aload_n X.1 X.2.1 dX0_append_4 rfl (lv_at hl 0 rfl) ?_
  refine r_geti (N := 6) (T := TX0) (kz := 0) X K w iX0_append_0 k_o0 rfl (by decide) 0 (by decide) rfl rfl rfl (List.mem_of_getElem? (i := 2) rfl) dX0_append_5 ?_
  obtain ⟨i0, i1, h1, h2⟩ := h
  refine r_icmp_lt (tgt := 12) X i0 i1 dX0_append_8 (by decide) (fun cc => ?_) (fun cc => ?_)
  · have h := h1 cc
    refine lv_aload_n X.1 X.2.1 dX0_append_12 rfl (lv_at hl 0 rfl) ?_
    refine r_getr (N := 6) (T := TX0) X K w iX0_append_0 k_o0 rfl (by decide) 2 (by decide) rfl rfl (List.mem_of_getElem? (i := 3) rfl) dX0_append_13 ?_
    have k1 : gk g (o0 + 3) = 4 := gch hg k_o0 (by decide) 2 (by decide) rfl rfl
    refine lv_aload_n X.1 X.2.1 dX0_append_16 rfl (lv_at hl 0 rfl) ?_
    refine r_geti (N := 6) (T := TX0) (kz := 5) X K w iX0_append_0 k_o0 rfl (by decide) 5 (by decide) rfl rfl rfl (List.mem_of_getElem? (i := 1) rfl) dX0_append_17 ?_
    refine lv_iload_n X.1 X.2.1 dX0_append_20 rfl (lv_at hl 1 rfl) ?_
    refine q_v (x_V (As := [cI (M o0 5), cI x1]) (rest := []) X K w (c_X4_put hg k1 h) (cwV 2 X.2.2.2.2 gX0_append_X4_put rfl rfl rfl (by decide +kernel) ⟨Nat.le_of_ble_eq_true rfl, Nat.le_of_ble_eq_true rfl⟩) k1 (by decide) rfl rfl hl rfl (Nat.le_of_ble_eq_true rfl) dX0_append_21 ⟨Nat.le_of_ble_eq_true rfl, Nat.le_of_ble_eq_true rfl⟩) w (fun M2 H locs h w => ?_)
    refine lv_aload_n X.1 X.2.1 dX0_append_24 rfl (lv_at hl 0 rfl) ?_
    refine r_getr (N := 6) (T := TX0) X K w iX0_append_0 k_o0 rfl (by decide) 1 (by decide) rfl rfl (List.mem_of_getElem? (i := 4) rfl) dX0_append_25 ?_
    have k3 : gk g (o0 + 1) = 4 := gch hg k_o0 (by decide) 1 (by decide) rfl rfl
    refine lv_aload_n X.1 X.2.1 dX0_append_28 rfl (lv_at hl 0 rfl) ?_
    refine r_geti (N := 6) (T := TX0) (kz := 5) X K w iX0_append_0 k_o0 rfl (by decide) 5 (by decide) rfl rfl rfl (List.mem_of_getElem? (i := 1) rfl) dX0_append_29 ?_
    refine lv_iload_n X.1 X.2.1 dX0_append_32 rfl (lv_at hl 2 rfl) ?_
    refine q_v (x_V (As := [cI (M2 o0 5), cI x2]) (rest := []) X K w (c_X4_put hg k3 h) (cwV 2 X.2.2.2.2 gX0_append_X4_put rfl rfl rfl (by decide +kernel) ⟨Nat.le_of_ble_eq_true rfl, Nat.le_of_ble_eq_true rfl⟩) k3 (by decide) rfl rfl hl rfl (Nat.le_of_ble_eq_true rfl) dX0_append_33 ⟨Nat.le_of_ble_eq_true rfl, Nat.le_of_ble_eq_true rfl⟩) w (fun M4 H locs h w => ?_)
    refine lv_aload_n X.1 X.2.1 dX0_append_36 rfl (lv_at hl 0 rfl) ?_
    refine r_getr (N := 6) (T := TX0) X K w iX0_append_0 k_o0 rfl (by decide) 3 (by decide) rfl rfl (List.mem_of_getElem? (i := 5) rfl) dX0_append_37 ?_
    have k5 : gk g (o0 + 5) = 4 := gch hg k_o0 (by decide) 3 (by decide) rfl rfl
    refine lv_aload_n X.1 X.2.1 dX0_append_40 rfl (lv_at hl 0 rfl) ?_
    refine r_geti (N := 6) (T := TX0) (kz := 5) X K w iX0_append_0 k_o0 rfl (by decide) 5 (by decide) rfl rfl rfl (List.mem_of_getElem? (i := 1) rfl) dX0_append_41 ?_
    refine lv_iload_n X.1 X.2.1 dX0_append_44 rfl (lv_at hl 3 rfl) ?_
    refine q_v (x_V (As := [cI (M4 o0 5), cI x3]) (rest := []) X K w (c_X4_put hg k5 h) (cwV 2 X.2.2.2.2 gX0_append_X4_put rfl rfl rfl (by decide +kernel) ⟨Nat.le_of_ble_eq_true rfl, Nat.le_of_ble_eq_true rfl⟩) k5 (by decide) rfl rfl hl rfl (Nat.le_of_ble_eq_true rfl) dX0_append_45 ⟨Nat.le_of_ble_eq_true rfl, Nat.le_of_ble_eq_true rfl⟩) w (fun M6 H locs h w => ?_)
    refine lv_aload_n X.1 X.2.1 dX0_append_48 rfl (lv_at hl 0 rfl) ?_
    refine r_getr (N := 6) (T := TX0) X K w iX0_append_0 k_o0 rfl (by decide) 4 (by decide) rfl rfl (List.mem_of_getElem? (i := 6) rfl) dX0_append_49 ?_
    have k7 : gk g (o0 + 7) = 4 := gch hg k_o0 (by decide) 4 (by decide) rfl rfl
    refine lv_aload_n X.1 X.2.1 dX0_append_52 rfl (lv_at hl 0 rfl) ?_
    refine r_geti (N := 6) (T := TX0) (kz := 5) X K w iX0_append_0 k_o0 rfl (by decide) 5 (by decide) rfl rfl rfl (List.mem_of_getElem? (i := 1) rfl) dX0_append_53 ?_
    refine lv_iload X.1 X.2.1 dX0_append_56 (lv_at hl 4 rfl) ?_
    refine q_v (x_V (As := [cI (M6 o0 5), cI x4]) (rest := []) X K w (c_X4_put hg k7 h) (cwV 2 X.2.2.2.2 gX0_append_X4_put rfl rfl rfl (by decide +kernel) ⟨Nat.le_of_ble_eq_true rfl, Nat.le_of_ble_eq_true rfl⟩) k7 (by decide) rfl rfl hl rfl (Nat.le_of_ble_eq_true rfl) dX0_append_58 ⟨Nat.le_of_ble_eq_true rfl, Nat.le_of_ble_eq_true rfl⟩) w (fun M8 H locs h w => ?_)
    refine lv_aload_n X.1 X.2.1 dX0_append_61 rfl (lv_at hl 0 rfl) ?_
    refine lv_dup X.1 X.2.1 dX0_append_62 rfl ?_
    refine r_geti (N := 6) (T := TX0) (kz := 5) X K w iX0_append_0 k_o0 rfl (by decide) 5 (by decide) rfl rfl rfl (List.mem_of_getElem? (i := 1) rfl) dX0_append_63 ?_
    refine r_iconst X dX0_append_66 ?_
    refine r_iadd X dX0_append_67 ?_
    refine r_puti (N := 6) (T := TX0) (kz := 5) (ty := .int) X K w iX0_append_0 tyX0 tyX0_ok nmX0 k_o0 rfl (by decide) 5 (by decide) rfl rfl rfl rfl (by decide +kernel) rfl rfl (List.mem_of_getElem? (i := 1) rfl) dX0_append_68 (fun M9 H locs e w => ?_)
    replace h := h M9 e
    exact r_return X hr hlk K w h dX0_append_71
  · have h := h2 cc
    exact r_return X hr hlk K w h dX0_append_11
theorem dX0_order_0 : decode cX0_order 0 = .ok (.aload_n 0, 1) := by decide +kernel
theorem dX0_order_1 : decode cX0_order 1 = .ok (.getfield 23, 3) := by decide +kernel
theorem dX0_order_4 : decode cX0_order 4 = .ok (.iload_n 1, 1) := by decide +kernel
theorem dX0_order_5 : decode cX0_order 5 = .ok (.invokevirtual 46, 3) := by decide +kernel
theorem dX0_order_8 : decode cX0_order 8 = .ok (.bipush 6, 2) := by decide +kernel
theorem dX0_order_10 : decode cX0_order 10 = .ok (.imul, 1) := by decide +kernel
theorem dX0_order_11 : decode cX0_order 11 = .ok (.aload_n 0, 1) := by decide +kernel
theorem dX0_order_12 : decode cX0_order 12 = .ok (.getfield 27, 3) := by decide +kernel
theorem dX0_order_15 : decode cX0_order 15 = .ok (.iload_n 1, 1) := by decide +kernel
theorem dX0_order_16 : decode cX0_order 16 = .ok (.invokevirtual 46, 3) := by decide +kernel
theorem dX0_order_19 : decode cX0_order 19 = .ok (.iadd, 1) := by decide +kernel
theorem dX0_order_20 : decode cX0_order 20 = .ok (.bipush 10, 2) := by decide +kernel
theorem dX0_order_22 : decode cX0_order 22 = .ok (.imul, 1) := by decide +kernel
theorem dX0_order_23 : decode cX0_order 23 = .ok (.aload_n 0, 1) := by decide +kernel
theorem dX0_order_24 : decode cX0_order 24 = .ok (.getfield 30, 3) := by decide +kernel
theorem dX0_order_27 : decode cX0_order 27 = .ok (.iload_n 1, 1) := by decide +kernel
theorem dX0_order_28 : decode cX0_order 28 = .ok (.invokevirtual 46, 3) := by decide +kernel
theorem dX0_order_31 : decode cX0_order 31 = .ok (.iadd, 1) := by decide +kernel
theorem dX0_order_32 : decode cX0_order 32 = .ok (.ireturn, 1) := by decide +kernel
set_option maxRecDepth 20000 in
theorem ggX0_order_X4_get : GoodIn wsX0_order wsX4_get := goodIn_r _ [8, 9, 16] (by decide +kernel) (by decide +kernel)
set_option maxRecDepth 20000 in
theorem gX0_order_X4_get : GoodIn wsX0_order (wsV RX0 46 RX4 yX4_get wsX4_get) := goodIn_app (goodIn_of _ (by decide +kernel)) ggX0_order_X4_get
theorem iX0_order_0 : ∀ w ∈ u_ws RX0 TX0 6, w ∈ wsX0_order := fun w h => List.mem_cons_of_mem _ (List.mem_append_left _ (List.mem_append_right _ (h)))
set_option maxHeartbeats 4000000 in
set_option maxRecDepth 100000 in
theorem c_X0_order {E : EE} {l : Launch} {g : GG} {ad : Nat → Nat} (hg : gwf g) {o0 : Nat} {x1 : Int} {M : Mm} {Q : Int → Mm → Prop} (k_o0 : gk g o0 = 0) (h : p_X0_order g o0 x1 M Q) : Ct E l yX0_order wsX0_order rmX0_order g ad [.ref (ad o0), cI x1] M (QI E g ad Q) := by
  refine ent (cc := cX0_order) (maxL := 2) (ret := (some .int)) (own := RX0) (by decide +kernel) rfl rfl (Nat.le_of_ble_eq_true rfl) ?_
  intro p e s m below meth c ls X hr hlk K w hl
  have hl : lv_has ls 2 [(0, .ref (ad o0)), (1, cI x1)] := hl
  unfold p_X0_order at h
  refine lv_aload_n X.1 X.2.1 dX0_order_0 rfl (lv_at hl 0 rfl) ?_
  refine r_getr (N := 6) (T := TX0) X K w iX0_order_0 k_o0 rfl (by decide) 1 (by decide) rfl rfl (List.mem_of_getElem? (i := 1) rfl) dX0_order_1 ?_
  have k1 : gk g (o0 + 1) = 4 := gch hg k_o0 (by decide) 1 (by decide) rfl rfl
  refine lv_iload_n X.1 X.2.1 dX0_order_4 rfl (lv_at hl 1 rfl) ?_
  refine q_i (x_V (As := [cI x1]) (rest := []) X K w (c_X4_get hg k1 h) (cwV 1 X.2.2.2.2 gX0_order_X4_get rfl rfl rfl (by decide +kernel) ⟨Nat.le_of_ble_eq_true rfl, Nat.le_of_ble_eq_true rfl⟩) k1 (by decide) rfl rfl hl rfl (Nat.le_of_ble_eq_true rfl) dX0_order_5 ⟨Nat.le_of_ble_eq_true rfl, Nat.le_of_ble_eq_true rfl⟩) w (fun r3 M2 H locs h w => ?_)
  refine r_bipush X dX0_order_8 (by decide +kernel) ?_
  refine r_imul X dX0_order_10 ?_
  refine lv_aload_n X.1 X.2.1 dX0_order_11 rfl (lv_at hl 0 rfl) ?_
  refine r_getr (N := 6) (T := TX0) X K w iX0_order_0 k_o0 rfl (by decide) 2 (by decide) rfl rfl (List.mem_of_getElem? (i := 2) rfl) dX0_order_12 ?_
  have k4 : gk g (o0 + 3) = 4 := gch hg k_o0 (by decide) 2 (by decide) rfl rfl
  refine lv_iload_n X.1 X.2.1 dX0_order_15 rfl (lv_at hl 1 rfl) ?_
  refine q_i (x_V (As := [cI x1]) (rest := [cI (r3 * 6)]) X K w (c_X4_get hg k4 h) (cwV 1 X.2.2.2.2 gX0_order_X4_get rfl rfl rfl (by decide +kernel) ⟨Nat.le_of_ble_eq_true rfl, Nat.le_of_ble_eq_true rfl⟩) k4 (by decide) rfl rfl hl rfl (Nat.le_of_ble_eq_true rfl) dX0_order_16 ⟨Nat.le_of_ble_eq_true rfl, Nat.le_of_ble_eq_true rfl⟩) w (fun r6 M5 H locs h w => ?_)
  refine r_iadd X dX0_order_19 ?_
  refine r_bipush X dX0_order_20 (by decide +kernel) ?_
  refine r_imul X dX0_order_22 ?_
  refine lv_aload_n X.1 X.2.1 dX0_order_23 rfl (lv_at hl 0 rfl) ?_
  refine r_getr (N := 6) (T := TX0) X K w iX0_order_0 k_o0 rfl (by decide) 3 (by decide) rfl rfl (List.mem_of_getElem? (i := 3) rfl) dX0_order_24 ?_
  have k7 : gk g (o0 + 5) = 4 := gch hg k_o0 (by decide) 3 (by decide) rfl rfl
  refine lv_iload_n X.1 X.2.1 dX0_order_27 rfl (lv_at hl 1 rfl) ?_
  refine q_i (x_V (As := [cI x1]) (rest := [cI (((r3 * 6) + r6) * 10)]) X K w (c_X4_get hg k7 h) (cwV 1 X.2.2.2.2 gX0_order_X4_get rfl rfl rfl (by decide +kernel) ⟨Nat.le_of_ble_eq_true rfl, Nat.le_of_ble_eq_true rfl⟩) k7 (by decide) rfl rfl hl rfl (Nat.le_of_ble_eq_true rfl) dX0_order_28 ⟨Nat.le_of_ble_eq_true rfl, Nat.le_of_ble_eq_true rfl⟩) w (fun r9 M8 H locs h w => ?_)
  refine r_iadd X dX0_order_31 ?_
  exact r_ireturn X hr hlk K w h dX0_order_32
theorem dX4_swap_0 : decode cX4_swap 0 = .ok (.aload_n 0, 1) := by decide +kernel
theorem dX4_swap_1 : decode cX4_swap 1 = .ok (.iload_n 1, 1) := by decide +kernel
theorem dX4_swap_2 : decode cX4_swap 2 = .ok (.invokevirtual 19, 3) := by decide +kernel
theorem dX4_swap_5 : decode cX4_swap 5 = .ok (.istore_n 3, 1) := by decide +kernel
theorem dX4_swap_6 : decode cX4_swap 6 = .ok (.aload_n 0, 1) := by decide +kernel
theorem dX4_swap_7 : decode cX4_swap 7 = .ok (.iload_n 1, 1) := by decide +kernel
theorem dX4_swap_8 : decode cX4_swap 8 = .ok (.aload_n 0, 1) := by decide +kernel
theorem dX4_swap_9 : decode cX4_swap 9 = .ok (.iload_n 2, 1) := by decide +kernel
theorem dX4_swap_10 : decode cX4_swap 10 = .ok (.invokevirtual 19, 3) := by decide +kernel
theorem dX4_swap_13 : decode cX4_swap 13 = .ok (.invokevirtual 23, 3) := by decide +kernel
theorem dX4_swap_16 : decode cX4_swap 16 = .ok (.aload_n 0, 1) := by decide +kernel
theorem dX4_swap_17 : decode cX4_swap 17 = .ok (.iload_n 2, 1) := by decide +kernel
theorem dX4_swap_18 : decode cX4_swap 18 = .ok (.iload_n 3, 1) := by decide +kernel
theorem dX4_swap_19 : decode cX4_swap 19 = .ok (.invokevirtual 23, 3) := by decide +kernel
theorem dX4_swap_22 : decode cX4_swap 22 = .ok (.return_, 1) := by decide +kernel
set_option maxRecDepth 20000 in
theorem ggX4_swap_X4_get : GoodIn wsX4_swap wsX4_get := goodIn_r _ [5, 6, 11] (by decide +kernel) (by decide +kernel)
set_option maxRecDepth 20000 in
theorem gX4_swap_X4_get : GoodIn wsX4_swap (wsV RX4 19 RX4 yX4_get wsX4_get) := goodIn_app (goodIn_of _ (by decide +kernel)) ggX4_swap_X4_get
set_option maxRecDepth 20000 in
theorem ggX4_swap_X4_put : GoodIn wsX4_swap wsX4_put := goodIn_r _ [10, 6, 11] (by decide +kernel) (by decide +kernel)
set_option maxRecDepth 20000 in
theorem gX4_swap_X4_put : GoodIn wsX4_swap (wsV RX4 23 RX4 yX4_put wsX4_put) := goodIn_app (goodIn_of _ (by decide +kernel)) ggX4_swap_X4_put
set_option maxHeartbeats 4000000 in
set_option maxRecDepth 100000 in
theorem c_X4_swap {E : EE} {l : Launch} {g : GG} {ad : Nat → Nat} (hg : gwf g) {o0 : Nat} {x1 : Int} {x2 : Int} {M : Mm} {Q : Mm → Prop} (k_o0 : gk g o0 = 4) (h : p_X4_swap g o0 x1 x2 M Q) : Ct E l yX4_swap wsX4_swap rmX4_swap g ad [.ref (ad o0), cI x1, cI x2] M (QV E g ad Q) := by
  refine ent (cc := cX4_swap) (maxL := 4) (ret := none) (own := RX4) (by decide +kernel) rfl rfl (Nat.le_of_ble_eq_true rfl) ?_
  intro p e s m below meth c ls X hr hlk K w hl
  have hl : lv_has ls 4 [(0, .ref (ad o0)), (1, cI x1), (2, cI x2)] := hl
  unfold p_X4_swap at h
  refine lv_aload_n X.1 X.2.1 dX4_swap_0 rfl (lv_at hl 0 rfl) ?_
  refine lv_iload_n X.1 X.2.1 dX4_swap_1 rfl (lv_at hl 1 rfl) ?_
  refine q_i (x_V (As := [cI x1]) (rest := []) X K w (c_X4_get hg k_o0 h) (cwV 1 X.2.2.2.2 gX4_swap_X4_get rfl rfl rfl (by decide +kernel) ⟨Nat.le_of_ble_eq_true rfl, Nat.le_of_ble_eq_true rfl⟩) k_o0 (by decide) rfl rfl hl rfl (Nat.le_of_ble_eq_true rfl) dX4_swap_2 ⟨Nat.le_of_ble_eq_true rfl, Nat.le_of_ble_eq_true rfl⟩) w (fun r2 M1 H locs h w => ?_)
  refine lv_istore_n (lv' := [(3, cI r2), (0, .ref (ad o0)), (1, cI x1), (2, cI x2)]) X.1 X.2.1 dX4_swap_5 rfl hl (by decide) rfl (fun ls hl => ?_)
  refine lv_aload_n X.1 X.2.1 dX4_swap_6 rfl (lv_at hl 1 rfl) ?_
  refine lv_iload_n X.1 X.2.1 dX4_swap_7 rfl (lv_at hl 2 rfl) ?_
  refine lv_aload_n X.1 X.2.1 dX4_swap_8 rfl (lv_at hl 1 rfl) ?_
  refine lv_iload_n X.1 X.2.1 dX4_swap_9 rfl (lv_at hl 3 rfl) ?_
  refine q_i (x_V (As := [cI x2]) (rest := [cI x1, .ref (ad o0)]) X K w (c_X4_get hg k_o0 h) (cwV 1 X.2.2.2.2 gX4_swap_X4_get rfl rfl rfl (by decide +kernel) ⟨Nat.le_of_ble_eq_true rfl, Nat.le_of_ble_eq_true rfl⟩) k_o0 (by decide) rfl rfl hl rfl (Nat.le_of_ble_eq_true rfl) dX4_swap_10 ⟨Nat.le_of_ble_eq_true rfl, Nat.le_of_ble_eq_true rfl⟩) w (fun r4 M3 H locs h w => ?_)
  refine q_v (x_V (As := [cI x1, cI r4]) (rest := []) X K w (c_X4_put hg k_o0 h) (cwV 2 X.2.2.2.2 gX4_swap_X4_put rfl rfl rfl (by decide +kernel) ⟨Nat.le_of_ble_eq_true rfl, Nat.le_of_ble_eq_true rfl⟩) k_o0 (by decide) rfl rfl hl rfl (Nat.le_of_ble_eq_true rfl) dX4_swap_13 ⟨Nat.le_of_ble_eq_true rfl, Nat.le_of_ble_eq_true rfl⟩) w (fun M5 H locs h w => ?_)
  refine lv_aload_n X.1 X.2.1 dX4_swap_16 rfl (lv_at hl 1 rfl) ?_
  refine lv_iload_n X.1 X.2.1 dX4_swap_17 rfl (lv_at hl 3 rfl) ?_
  refine lv_iload_n X.1 X.2.1 dX4_swap_18 rfl (lv_at hl 0 rfl) ?_
  refine q_v (x_V (As := [cI x2, cI r2]) (rest := []) X K w (c_X4_put hg k_o0 h) (cwV 2 X.2.2.2.2 gX4_swap_X4_put rfl rfl rfl (by decide +kernel) ⟨Nat.le_of_ble_eq_true rfl, Nat.le_of_ble_eq_true rfl⟩) k_o0 (by decide) rfl rfl hl rfl (Nat.le_of_ble_eq_true rfl) dX4_swap_19 ⟨Nat.le_of_ble_eq_true rfl, Nat.le_of_ble_eq_true rfl⟩) w (fun M6 H locs h w => ?_)
  exact r_return X hr hlk K w h dX4_swap_22
theorem dX0_swap_0 : decode cX0_swap 0 = .ok (.aload_n 0, 1) := by decide +kernel
theorem dX0_swap_1 : decode cX0_swap 1 = .ok (.getfield 23, 3) := by decide +kernel
theorem dX0_swap_4 : decode cX0_swap 4 = .ok (.iload_n 1, 1) := by decide +kernel
theorem dX0_swap_5 : decode cX0_swap 5 = .ok (.iload_n 2, 1) := by decide +kernel
theorem dX0_swap_6 : decode cX0_swap 6 = .ok (.invokevirtual 83, 3) := by decide +kernel
theorem dX0_swap_9 : decode cX0_swap 9 = .ok (.aload_n 0, 1) := by decide +kernel
theorem dX0_swap_10 : decode cX0_swap 10 = .ok (.getfield 27, 3) := by decide +kernel
theorem dX0_swap_13 : decode cX0_swap 13 = .ok (.iload_n 1, 1) := by decide +kernel
theorem dX0_swap_14 : decode cX0_swap 14 = .ok (.iload_n 2, 1) := by decide +kernel
theorem dX0_swap_15 : decode cX0_swap 15 = .ok (.invokevirtual 83, 3) := by decide +kernel
theorem dX0_swap_18 : decode cX0_swap 18 = .ok (.aload_n 0, 1) := by decide +kernel
theorem dX0_swap_19 : decode cX0_swap 19 = .ok (.getfield 30, 3) := by decide +kernel
theorem dX0_swap_22 : decode cX0_swap 22 = .ok (.iload_n 1, 1) := by decide +kernel
theorem dX0_swap_23 : decode cX0_swap 23 = .ok (.iload_n 2, 1) := by decide +kernel
theorem dX0_swap_24 : decode cX0_swap 24 = .ok (.invokevirtual 83, 3) := by decide +kernel
theorem dX0_swap_27 : decode cX0_swap 27 = .ok (.aload_n 0, 1) := by decide +kernel
theorem dX0_swap_28 : decode cX0_swap 28 = .ok (.getfield 33, 3) := by decide +kernel
theorem dX0_swap_31 : decode cX0_swap 31 = .ok (.iload_n 1, 1) := by decide +kernel
theorem dX0_swap_32 : decode cX0_swap 32 = .ok (.iload_n 2, 1) := by decide +kernel
theorem dX0_swap_33 : decode cX0_swap 33 = .ok (.invokevirtual 83, 3) := by decide +kernel
theorem dX0_swap_36 : decode cX0_swap 36 = .ok (.return_, 1) := by decide +kernel
set_option maxRecDepth 20000 in
theorem ggX0_swap_X4_swap : GoodIn wsX0_swap wsX4_swap := goodIn_r _ [9, 10, 11, 12, 8, 13, 14, 15, 16, 17, 18, 25] (by decide +kernel) (by decide +kernel)
set_option maxRecDepth 20000 in
theorem gX0_swap_X4_swap : GoodIn wsX0_swap (wsV RX0 83 RX4 yX4_swap wsX4_swap) := goodIn_app (goodIn_of _ (by decide +kernel)) ggX0_swap_X4_swap
theorem iX0_swap_0 : ∀ w ∈ u_ws RX0 TX0 6, w ∈ wsX0_swap := fun w h => List.mem_cons_of_mem _ (List.mem_append_left _ (List.mem_append_right _ (h)))
set_option maxHeartbeats 4000000 in
set_option maxRecDepth 100000 in
theorem c_X0_swap {E : EE} {l : Launch} {g : GG} {ad : Nat → Nat} (hg : gwf g) {o0 : Nat} {x1 : Int} {x2 : Int} {M : Mm} {Q : Mm → Prop} (k_o0 : gk g o0 = 0) (h : p_X0_swap g o0 x1 x2 M Q) : Ct E l yX0_swap wsX0_swap rmX0_swap g ad [.ref (ad o0), cI x1, cI x2] M (QV E g ad Q) := by
  refine ent (cc := cX0_swap) (maxL := 3) (ret := none) (own := RX0) (by decide +kernel) rfl rfl (Nat.le_of_ble_eq_true rfl) ?_
  intro p e s m below meth c ls X hr hlk K w hl
  have hl : lv_has ls 3 [(0, .ref (ad o0)), (1, cI x1), (2, cI x2)] := hl
  unfold p_X0_swap at h
  refine lv_aload_n X.1 X.2.1 dX0_swap_0 rfl (lv_at hl 0 rfl) ?_
  refine r_getr (N := 6) (T := TX0) X K w iX0_swap_0 k_o0 rfl (by decide) 1 (by decide) rfl rfl (List.mem_of_getElem? (i := 1) rfl) dX0_swap_1 ?_
  have k1 : gk g (o0 + 1) = 4 := gch hg k_o0 (by decide) 1 (by decide) rfl rfl
  refine lv_iload_n X.1 X.2.1 dX0_swap_4 rfl (lv_at hl 1 rfl) ?_
  refine lv_iload_n X.1 X.2.1 dX0_swap_5 rfl (lv_at hl 2 rfl) ?_
  refine q_v (x_V (As := [cI x1, cI x2]) (rest := []) X K w (c_X4_swap hg k1 h) (cwV 2 X.2.2.2.2 gX0_swap_X4_swap rfl rfl rfl (by decide +kernel) ⟨Nat.le_of_ble_eq_true rfl, Nat.le_of_ble_eq_true rfl⟩) k1 (by decide) rfl rfl hl rfl (Nat.le_of_ble_eq_true rfl) dX0_swap_6 ⟨Nat.le_of_ble_eq_true rfl, Nat.le_of_ble_eq_true rfl⟩) w (fun M2 H locs h w => ?_)
  refine lv_aload_n X.1 X.2.1 dX0_swap_9 rfl (lv_at hl 0 rfl) ?_
  refine r_getr (N := 6) (T := TX0) X K w iX0_swap_0 k_o0 rfl (by decide) 2 (by decide) rfl rfl (List.mem_of_getElem? (i := 2) rfl) dX0_swap_10 ?_
  have k3 : gk g (o0 + 3) = 4 := gch hg k_o0 (by decide) 2 (by decide) rfl rfl
  refine lv_iload_n X.1 X.2.1 dX0_swap_13 rfl (lv_at hl 1 rfl) ?_
  refine lv_iload_n X.1 X.2.1 dX0_swap_14 rfl (lv_at hl 2 rfl) ?_
  refine q_v (x_V (As := [cI x1, cI x2]) (rest := []) X K w (c_X4_swap hg k3 h) (cwV 2 X.2.2.2.2 gX0_swap_X4_swap rfl rfl rfl (by decide +kernel) ⟨Nat.le_of_ble_eq_true rfl, Nat.le_of_ble_eq_true rfl⟩) k3 (by decide) rfl rfl hl rfl (Nat.le_of_ble_eq_true rfl) dX0_swap_15 ⟨Nat.le_of_ble_eq_true rfl, Nat.le_of_ble_eq_true rfl⟩) w (fun M4 H locs h w => ?_)
  refine lv_aload_n X.1 X.2.1 dX0_swap_18 rfl (lv_at hl 0 rfl) ?_
  refine r_getr (N := 6) (T := TX0) X K w iX0_swap_0 k_o0 rfl (by decide) 3 (by decide) rfl rfl (List.mem_of_getElem? (i := 3) rfl) dX0_swap_19 ?_
  have k5 : gk g (o0 + 5) = 4 := gch hg k_o0 (by decide) 3 (by decide) rfl rfl
  refine lv_iload_n X.1 X.2.1 dX0_swap_22 rfl (lv_at hl 1 rfl) ?_
  refine lv_iload_n X.1 X.2.1 dX0_swap_23 rfl (lv_at hl 2 rfl) ?_
  refine q_v (x_V (As := [cI x1, cI x2]) (rest := []) X K w (c_X4_swap hg k5 h) (cwV 2 X.2.2.2.2 gX0_swap_X4_swap rfl rfl rfl (by decide +kernel) ⟨Nat.le_of_ble_eq_true rfl, Nat.le_of_ble_eq_true rfl⟩) k5 (by decide) rfl rfl hl rfl (Nat.le_of_ble_eq_true rfl) dX0_swap_24 ⟨Nat.le_of_ble_eq_true rfl, Nat.le_of_ble_eq_true rfl⟩) w (fun M6 H locs h w => ?_)
  refine lv_aload_n X.1 X.2.1 dX0_swap_27 rfl (lv_at hl 0 rfl) ?_
  refine r_getr (N := 6) (T := TX0) X K w iX0_swap_0 k_o0 rfl (by decide) 4 (by decide) rfl rfl (List.mem_of_getElem? (i := 4) rfl) dX0_swap_28 ?_
  have k7 : gk g (o0 + 7) = 4 := gch hg k_o0 (by decide) 4 (by decide) rfl rfl
  refine lv_iload_n X.1 X.2.1 dX0_swap_31 rfl (lv_at hl 1 rfl) ?_
  refine lv_iload_n X.1 X.2.1 dX0_swap_32 rfl (lv_at hl 2 rfl) ?_
  refine q_v (x_V (As := [cI x1, cI x2]) (rest := []) X K w (c_X4_swap hg k7 h) (cwV 2 X.2.2.2.2 gX0_swap_X4_swap rfl rfl rfl (by decide +kernel) ⟨Nat.le_of_ble_eq_true rfl, Nat.le_of_ble_eq_true rfl⟩) k7 (by decide) rfl rfl hl rfl (Nat.le_of_ble_eq_true rfl) dX0_swap_33 ⟨Nat.le_of_ble_eq_true rfl, Nat.le_of_ble_eq_true rfl⟩) w (fun M8 H locs h w => ?_)
  exact r_return X hr hlk K w h dX0_swap_36
theorem dX0_moveToItsPlace_0 : decode cX0_moveToItsPlace 0 = .ok (.iload_n 1, 1) := by decide +kernel
theorem dX0_moveToItsPlace_1 : decode cX0_moveToItsPlace 1 = .ok (.istore_n 2, 1) := by decide +kernel
theorem dX0_moveToItsPlace_2 : decode cX0_moveToItsPlace 2 = .ok (.iload_n 2, 1) := by decide +kernel
theorem dX0_moveToItsPlace_3 : decode cX0_moveToItsPlace 3 = .ok (.ifCond .le 32, 3) := by decide +kernel
theorem dX0_moveToItsPlace_6 : decode cX0_moveToItsPlace 6 = .ok (.aload_n 0, 1) := by decide +kernel
theorem dX0_moveToItsPlace_7 : decode cX0_moveToItsPlace 7 = .ok (.iload_n 2, 1) := by decide +kernel
theorem dX0_moveToItsPlace_8 : decode cX0_moveToItsPlace 8 = .ok (.invokevirtual 80, 3) := by decide +kernel
theorem dX0_moveToItsPlace_11 : decode cX0_moveToItsPlace 11 = .ok (.aload_n 0, 1) := by decide +kernel
theorem dX0_moveToItsPlace_12 : decode cX0_moveToItsPlace 12 = .ok (.iload_n 2, 1) := by decide +kernel
theorem dX0_moveToItsPlace_13 : decode cX0_moveToItsPlace 13 = .ok (.iconst 1, 1) := by decide +kernel
theorem dX0_moveToItsPlace_14 : decode cX0_moveToItsPlace 14 = .ok (.isub, 1) := by decide +kernel
theorem dX0_moveToItsPlace_15 : decode cX0_moveToItsPlace 15 = .ok (.invokevirtual 80, 3) := by decide +kernel
theorem dX0_moveToItsPlace_18 : decode cX0_moveToItsPlace 18 = .ok (.if_icmp .ge 17, 3) := by decide +kernel
theorem dX0_moveToItsPlace_21 : decode cX0_moveToItsPlace 21 = .ok (.aload_n 0, 1) := by decide +kernel
theorem dX0_moveToItsPlace_22 : decode cX0_moveToItsPlace 22 = .ok (.iload_n 2, 1) := by decide +kernel
theorem dX0_moveToItsPlace_23 : decode cX0_moveToItsPlace 23 = .ok (.iconst 1, 1) := by decide +kernel
theorem dX0_moveToItsPlace_24 : decode cX0_moveToItsPlace 24 = .ok (.isub, 1) := by decide +kernel
theorem dX0_moveToItsPlace_25 : decode cX0_moveToItsPlace 25 = .ok (.iload_n 2, 1) := by decide +kernel
theorem dX0_moveToItsPlace_26 : decode cX0_moveToItsPlace 26 = .ok (.invokevirtual 57, 3) := by decide +kernel
theorem dX0_moveToItsPlace_29 : decode cX0_moveToItsPlace 29 = .ok (.iinc 2 (-1), 3) := by decide +kernel
theorem dX0_moveToItsPlace_32 : decode cX0_moveToItsPlace 32 = .ok (.goto (-30), 3) := by decide +kernel
theorem dX0_moveToItsPlace_35 : decode cX0_moveToItsPlace 35 = .ok (.return_, 1) := by decide +kernel
set_option maxRecDepth 20000 in
theorem ggX0_moveToItsPlace_X0_order : GoodIn wsX0_moveToItsPlace wsX0_order := goodIn_r _ [5, 6, 7, 8, 9, 10, 11, 12, 13, 14, 29, 30, 31, 32, 33, 34, 35] (by decide +kernel) (by decide +kernel)
set_option maxRecDepth 20000 in
theorem gX0_moveToItsPlace_X0_order : GoodIn wsX0_moveToItsPlace (wsV RX0 80 RX0 yX0_order wsX0_order) := goodIn_app (goodIn_of _ (by decide +kernel)) ggX0_moveToItsPlace_X0_order
set_option maxRecDepth 20000 in
theorem ggX0_moveToItsPlace_X0_swap : GoodIn wsX0_moveToItsPlace wsX0_swap := goodIn_r _ [18, 6, 7, 8, 19, 20, 21, 22, 12, 23, 24, 10, 11, 13, 14, 25, 26, 27, 28, 29, 30, 31, 32, 33, 34, 35] (by decide +kernel) (by decide +kernel)
set_option maxRecDepth 20000 in
theorem gX0_moveToItsPlace_X0_swap : GoodIn wsX0_moveToItsPlace (wsV RX0 57 RX0 yX0_swap wsX0_swap) := goodIn_app (goodIn_of _ (by decide +kernel)) ggX0_moveToItsPlace_X0_swap
set_option maxHeartbeats 4000000 in
set_option maxRecDepth 100000 in
theorem w_X0_moveToItsPlace_L2 {p : Program} {l : Launch} {e : Env} {s : State} {m : MethodId} {args : Array Value} {below : List Frame} {meth : Method} {c : Code} {E : EE} {g : GG} {ad : Nat → Nat} (hg : gwf g) (X : CallFix p m c cX0_moveToItsPlace 3 s args wsX0_moveToItsPlace RX0) (K : Kn E s) (hr : meth.sig.returnType = none) (hlk : meth.locks = false) {Q : Mm → Prop} : ∀ (n : Nat) (o0 : Nat) (x2 : Int) (M : Mm) (H : Heap) (locs : List Loc) (ls : Array Slot), gk g o0 = 0 → Rw E g ad M s.heap H locs → lv_has ls 3 [(0, .ref (ad o0)), (2, cI x2)] → p_X0_moveToItsPlace_L2 g n o0 x2 M Q → W p l e rmX0_moveToItsPlace s m args below meth c H locs 0 0 (MQ below (QV E g ad Q) args s 0 0 (Rg g ad)) (F0 m 2 ls []) := by
  intro n
  induction n with
  | zero =>
    intro o0 x2 M H locs ls k_o0 w hl h
    exact absurd h (by unfold p_X0_moveToItsPlace_L2; exact id)
  | succ n ih =>
    intro o0 x2 M H locs ls k_o0 w hl h
    unfold p_X0_moveToItsPlace_L2 at h
    refine lv_iload_n X.1 X.2.1 dX0_moveToItsPlace_2 rfl (lv_at hl 1 rfl) ?_
    obtain ⟨i0, h1, h2⟩ := h
    refine r_if_le (tgt := 35) X i0 dX0_moveToItsPlace_3 (by decide) (fun cc => ?_) (fun cc => ?_)
    · have h := h1 cc
      exact r_return X hr hlk K w h dX0_moveToItsPlace_35
    · have h := h2 cc
      refine lv_aload_n X.1 X.2.1 dX0_moveToItsPlace_6 rfl (lv_at hl 0 rfl) ?_
      refine lv_iload_n X.1 X.2.1 dX0_moveToItsPlace_7 rfl (lv_at hl 1 rfl) ?_
      refine q_i (x_V (As := [cI x2]) (rest := []) X K w (c_X0_order hg k_o0 h) (cwV 1 X.2.2.2.2 gX0_moveToItsPlace_X0_order rfl rfl rfl (by decide +kernel) ⟨Nat.le_of_ble_eq_true rfl, Nat.le_of_ble_eq_true rfl⟩) k_o0 (by decide) rfl rfl hl rfl (Nat.le_of_ble_eq_true rfl) dX0_moveToItsPlace_8 ⟨Nat.le_of_ble_eq_true rfl, Nat.le_of_ble_eq_true rfl⟩) w (fun r2 M1 H locs h w => ?_)
      refine lv_aload_n X.1 X.2.1 dX0_moveToItsPlace_11 rfl (lv_at hl 0 rfl) ?_
      refine lv_iload_n X.1 X.2.1 dX0_moveToItsPlace_12 rfl (lv_at hl 1 rfl) ?_
      refine r_iconst X dX0_moveToItsPlace_13 ?_
      refine r_isub X dX0_moveToItsPlace_14 ?_
      refine q_i (x_V (As := [cI (x2 - 1)]) (rest := [cI r2]) X K w (c_X0_order hg k_o0 h) (cwV 1 X.2.2.2.2 gX0_moveToItsPlace_X0_order rfl rfl rfl (by decide +kernel) ⟨Nat.le_of_ble_eq_true rfl, Nat.le_of_ble_eq_true rfl⟩) k_o0 (by decide) rfl rfl hl rfl (Nat.le_of_ble_eq_true rfl) dX0_moveToItsPlace_15 ⟨Nat.le_of_ble_eq_true rfl, Nat.le_of_ble_eq_true rfl⟩) w (fun r4 M3 H locs h w => ?_)
      obtain ⟨i0, i1, h1, h2⟩ := h
      refine r_icmp_ge (tgt := 35) X i0 i1 dX0_moveToItsPlace_18 (by decide) (fun cc => ?_) (fun cc => ?_)
      · have h := h1 cc
        exact r_return X hr hlk K w h dX0_moveToItsPlace_35
      · have h := h2 cc
        refine lv_aload_n X.1 X.2.1 dX0_moveToItsPlace_21 rfl (lv_at hl 0 rfl) ?_
        refine lv_iload_n X.1 X.2.1 dX0_moveToItsPlace_22 rfl (lv_at hl 1 rfl) ?_
        refine r_iconst X dX0_moveToItsPlace_23 ?_
        refine r_isub X dX0_moveToItsPlace_24 ?_
        refine lv_iload_n X.1 X.2.1 dX0_moveToItsPlace_25 rfl (lv_at hl 1 rfl) ?_
        refine q_v (x_V (As := [cI (x2 - 1), cI x2]) (rest := []) X K w (c_X0_swap hg k_o0 h) (cwV 2 X.2.2.2.2 gX0_moveToItsPlace_X0_swap rfl rfl rfl (by decide +kernel) ⟨Nat.le_of_ble_eq_true rfl, Nat.le_of_ble_eq_true rfl⟩) k_o0 (by decide) rfl rfl hl rfl (Nat.le_of_ble_eq_true rfl) dX0_moveToItsPlace_26 ⟨Nat.le_of_ble_eq_true rfl, Nat.le_of_ble_eq_true rfl⟩) w (fun M5 H locs h w => ?_)
        refine r_iinc (lv' := [(2, cI (x2 + (-1))), (0, .ref (ad o0))]) X hl (k := 1) rfl (by decide) dX0_moveToItsPlace_29 rfl (fun ls hl => ?_)
        refine lv_goto (tgt := 2) X.1 X.2.1 dX0_moveToItsPlace_32 (by decide) ?_
        exact ih o0 (x2 + (-1)) M5 _ _ _ k_o0 w (lv_sub hl [1, 0] rfl) h
set_option maxHeartbeats 4000000 in
set_option maxRecDepth 100000 in
theorem c_X0_moveToItsPlace {E : EE} {l : Launch} {g : GG} {ad : Nat → Nat} (hg : gwf g) {o0 : Nat} {x1 : Int} {M : Mm} {Q : Mm → Prop} (k_o0 : gk g o0 = 0) (h : p_X0_moveToItsPlace g o0 x1 M Q) : Ct E l yX0_moveToItsPlace wsX0_moveToItsPlace rmX0_moveToItsPlace g ad [.ref (ad o0), cI x1] M (QV E g ad Q) := by
  refine ent (cc := cX0_moveToItsPlace) (maxL := 3) (ret := none) (own := RX0) (by decide +kernel) rfl rfl (Nat.le_of_ble_eq_true rfl) ?_
  intro p e s m below meth c ls X hr hlk K w hl
  have hl : lv_has ls 3 [(0, .ref (ad o0)), (1, cI x1)] := hl
  unfold p_X0_moveToItsPlace at h
  refine lv_iload_n X.1 X.2.1 dX0_moveToItsPlace_0 rfl (lv_at hl 1 rfl) ?_
  refine lv_istore_n (lv' := [(2, cI x1), (0, .ref (ad o0)), (1, cI x1)]) X.1 X.2.1 dX0_moveToItsPlace_1 rfl hl (by decide) rfl (fun ls hl => ?_)
  obtain ⟨n6, h⟩ := h
  exact w_X0_moveToItsPlace_L2 hg X K hr hlk n6 o0 x1 M _ _ _ k_o0 w (lv_sub hl [1, 0] rfl) h
theorem dX0_putInOrder_0 : decode cX0_putInOrder 0 = .ok (.iconst 1, 1) := by decide +kernel
theorem dX0_putInOrder_1 : decode cX0_putInOrder 1 = .ok (.istore_n 1, 1) := by decide +kernel
theorem dX0_putInOrder_2 : decode cX0_putInOrder 2 = .ok (.iload_n 1, 1) := by decide +kernel
theorem dX0_putInOrder_3 : decode cX0_putInOrder 3 = .ok (.aload_n 0, 1) := by decide +kernel
theorem dX0_putInOrder_4 : decode cX0_putInOrder 4 = .ok (.getfield 9, 3) := by decide +kernel
theorem dX0_putInOrder_7 : decode cX0_putInOrder 7 = .ok (.if_icmp .ge 14, 3) := by decide +kernel
theorem dX0_putInOrder_10 : decode cX0_putInOrder 10 = .ok (.aload_n 0, 1) := by decide +kernel
theorem dX0_putInOrder_11 : decode cX0_putInOrder 11 = .ok (.iload_n 1, 1) := by decide +kernel
theorem dX0_putInOrder_12 : decode cX0_putInOrder 12 = .ok (.invokevirtual 54, 3) := by decide +kernel
theorem dX0_putInOrder_15 : decode cX0_putInOrder 15 = .ok (.iinc 1 1, 3) := by decide +kernel
theorem dX0_putInOrder_18 : decode cX0_putInOrder 18 = .ok (.goto (-16), 3) := by decide +kernel
theorem dX0_putInOrder_21 : decode cX0_putInOrder 21 = .ok (.return_, 1) := by decide +kernel
set_option maxRecDepth 20000 in
theorem ggX0_putInOrder_X0_moveToItsPlace : GoodIn wsX0_putInOrder wsX0_moveToItsPlace := goodIn_r _ [6, 7, 8, 9, 5, 10, 11, 12, 13, 14, 15, 16, 17, 18, 19, 20, 21, 22, 23, 24, 25, 26, 27, 28, 29, 30, 31, 32, 33, 34, 35, 36, 37, 38, 39, 40] (by decide +kernel) (by decide +kernel)
set_option maxRecDepth 20000 in
theorem gX0_putInOrder_X0_moveToItsPlace : GoodIn wsX0_putInOrder (wsV RX0 54 RX0 yX0_moveToItsPlace wsX0_moveToItsPlace) := goodIn_app (goodIn_of _ (by decide +kernel)) ggX0_putInOrder_X0_moveToItsPlace
theorem iX0_putInOrder_0 : ∀ w ∈ u_ws RX0 TX0 6, w ∈ wsX0_putInOrder := fun w h => List.mem_cons_of_mem _ (List.mem_append_left _ (List.mem_append_right _ (h)))
set_option maxHeartbeats 4000000 in
set_option maxRecDepth 100000 in
theorem w_X0_putInOrder_L2 {p : Program} {l : Launch} {e : Env} {s : State} {m : MethodId} {args : Array Value} {below : List Frame} {meth : Method} {c : Code} {E : EE} {g : GG} {ad : Nat → Nat} (hg : gwf g) (X : CallFix p m c cX0_putInOrder 2 s args wsX0_putInOrder RX0) (K : Kn E s) (hr : meth.sig.returnType = none) (hlk : meth.locks = false) {Q : Mm → Prop} : ∀ (n : Nat) (o0 : Nat) (x1 : Int) (M : Mm) (H : Heap) (locs : List Loc) (ls : Array Slot), gk g o0 = 0 → Rw E g ad M s.heap H locs → lv_has ls 2 [(0, .ref (ad o0)), (1, cI x1)] → p_X0_putInOrder_L2 g n o0 x1 M Q → W p l e rmX0_putInOrder s m args below meth c H locs 0 0 (MQ below (QV E g ad Q) args s 0 0 (Rg g ad)) (F0 m 2 ls []) := by
  intro n
  induction n with
  | zero =>
    intro o0 x1 M H locs ls k_o0 w hl h
    exact absurd h (by unfold p_X0_putInOrder_L2; exact id)
  | succ n ih =>
    intro o0 x1 M H locs ls k_o0 w hl h
    unfold p_X0_putInOrder_L2 at h
    refine lv_iload_n X.1 X.2.1 dX0_putInOrder_2 rfl (lv_at hl 1 rfl) ?_
    refine lv_aload_n X.1 X.2.1 dX0_putInOrder_3 rfl (lv_at hl 0 rfl) ?_
    refine r_geti (N := 6) (T := TX0) (kz := 5) X K w iX0_putInOrder_0 k_o0 rfl (by decide) 5 (by decide) rfl rfl rfl (List.mem_of_getElem? (i := 1) rfl) dX0_putInOrder_4 ?_
    obtain ⟨i0, i1, h1, h2⟩ := h
    refine r_icmp_ge (tgt := 21) X i0 i1 dX0_putInOrder_7 (by decide) (fun cc => ?_) (fun cc => ?_)
    · have h := h1 cc
      exact r_return X hr hlk K w h dX0_putInOrder_21
    · have h := h2 cc
      refine lv_aload_n X.1 X.2.1 dX0_putInOrder_10 rfl (lv_at hl 0 rfl) ?_
      refine lv_iload_n X.1 X.2.1 dX0_putInOrder_11 rfl (lv_at hl 1 rfl) ?_
      refine q_v (x_V (As := [cI x1]) (rest := []) X K w (c_X0_moveToItsPlace hg k_o0 h) (cwV 1 X.2.2.2.2 gX0_putInOrder_X0_moveToItsPlace rfl rfl rfl (by decide +kernel) ⟨Nat.le_of_ble_eq_true rfl, Nat.le_of_ble_eq_true rfl⟩) k_o0 (by decide) rfl rfl hl rfl (Nat.le_of_ble_eq_true rfl) dX0_putInOrder_12 ⟨Nat.le_of_ble_eq_true rfl, Nat.le_of_ble_eq_true rfl⟩) w (fun M1 H locs h w => ?_)
      refine r_iinc (lv' := [(1, cI (x1 + 1)), (0, .ref (ad o0))]) X hl (k := 1) rfl (by decide) dX0_putInOrder_15 rfl (fun ls hl => ?_)
      refine lv_goto (tgt := 2) X.1 X.2.1 dX0_putInOrder_18 (by decide) ?_
      exact ih o0 (x1 + 1) M1 _ _ _ k_o0 w (lv_sub hl [1, 0] rfl) h
set_option maxHeartbeats 4000000 in
set_option maxRecDepth 100000 in
theorem c_X0_putInOrder {E : EE} {l : Launch} {g : GG} {ad : Nat → Nat} (hg : gwf g) {o0 : Nat} {M : Mm} {Q : Mm → Prop} (k_o0 : gk g o0 = 0) (h : p_X0_putInOrder g o0 M Q) : Ct E l yX0_putInOrder wsX0_putInOrder rmX0_putInOrder g ad [.ref (ad o0)] M (QV E g ad Q) := by
  refine ent (cc := cX0_putInOrder) (maxL := 2) (ret := none) (own := RX0) (by decide +kernel) rfl rfl (Nat.le_of_ble_eq_true rfl) ?_
  intro p e s m below meth c ls X hr hlk K w hl
  have hl : lv_has ls 2 [(0, .ref (ad o0))] := hl
  unfold p_X0_putInOrder at h
  refine r_iconst X dX0_putInOrder_0 ?_
  refine lv_istore_n (lv' := [(1, cI 1), (0, .ref (ad o0))]) X.1 X.2.1 dX0_putInOrder_1 rfl hl (by decide) rfl (fun ls hl => ?_)
  obtain ⟨n2, h⟩ := h
  exact w_X0_putInOrder_L2 hg X K hr hlk n2 o0 1 M _ _ _ k_o0 w (lv_sub hl [1, 0] rfl) h
theorem dX0_removeAt_0 : decode cX0_removeAt 0 = .ok (.iload_n 1, 1) := by decide +kernel
theorem dX0_removeAt_1 : decode cX0_removeAt 1 = .ok (.iconst 1, 1) := by decide +kernel
theorem dX0_removeAt_2 : decode cX0_removeAt 2 = .ok (.iadd, 1) := by decide +kernel
theorem dX0_removeAt_3 : decode cX0_removeAt 3 = .ok (.istore_n 2, 1) := by decide +kernel
theorem dX0_removeAt_4 : decode cX0_removeAt 4 = .ok (.iload_n 2, 1) := by decide +kernel
theorem dX0_removeAt_5 : decode cX0_removeAt 5 = .ok (.aload_n 0, 1) := by decide +kernel
theorem dX0_removeAt_6 : decode cX0_removeAt 6 = .ok (.getfield 9, 3) := by decide +kernel
theorem dX0_removeAt_9 : decode cX0_removeAt 9 = .ok (.if_icmp .ge 17, 3) := by decide +kernel
theorem dX0_removeAt_12 : decode cX0_removeAt 12 = .ok (.aload_n 0, 1) := by decide +kernel
theorem dX0_removeAt_13 : decode cX0_removeAt 13 = .ok (.iload_n 2, 1) := by decide +kernel
theorem dX0_removeAt_14 : decode cX0_removeAt 14 = .ok (.iconst 1, 1) := by decide +kernel
theorem dX0_removeAt_15 : decode cX0_removeAt 15 = .ok (.isub, 1) := by decide +kernel
theorem dX0_removeAt_16 : decode cX0_removeAt 16 = .ok (.iload_n 2, 1) := by decide +kernel
theorem dX0_removeAt_17 : decode cX0_removeAt 17 = .ok (.invokevirtual 57, 3) := by decide +kernel
theorem dX0_removeAt_20 : decode cX0_removeAt 20 = .ok (.iinc 2 1, 3) := by decide +kernel
theorem dX0_removeAt_23 : decode cX0_removeAt 23 = .ok (.goto (-19), 3) := by decide +kernel
theorem dX0_removeAt_26 : decode cX0_removeAt 26 = .ok (.aload_n 0, 1) := by decide +kernel
theorem dX0_removeAt_27 : decode cX0_removeAt 27 = .ok (.dup, 1) := by decide +kernel
theorem dX0_removeAt_28 : decode cX0_removeAt 28 = .ok (.getfield 9, 3) := by decide +kernel
theorem dX0_removeAt_31 : decode cX0_removeAt 31 = .ok (.iconst 1, 1) := by decide +kernel
theorem dX0_removeAt_32 : decode cX0_removeAt 32 = .ok (.isub, 1) := by decide +kernel
theorem dX0_removeAt_33 : decode cX0_removeAt 33 = .ok (.putfield 9, 3) := by decide +kernel
theorem dX0_removeAt_36 : decode cX0_removeAt 36 = .ok (.return_, 1) := by decide +kernel
set_option maxRecDepth 20000 in
theorem ggX0_removeAt_X0_swap : GoodIn wsX0_removeAt wsX0_swap := goodIn_r _ [6, 7, 8, 9, 10, 11, 12, 13, 14, 15, 16, 17, 18, 19, 20, 21, 22, 23, 24, 25, 26, 27, 28, 29, 30, 31] (by decide +kernel) (by decide +kernel)
set_option maxRecDepth 20000 in
theorem gX0_removeAt_X0_swap : GoodIn wsX0_removeAt (wsV RX0 57 RX0 yX0_swap wsX0_swap) := goodIn_app (goodIn_of _ (by decide +kernel)) ggX0_removeAt_X0_swap
theorem iX0_removeAt_0 : ∀ w ∈ u_ws RX0 TX0 6, w ∈ wsX0_removeAt := fun w h => List.mem_cons_of_mem _ (List.mem_append_left _ (List.mem_append_right _ (h)))
set_option maxHeartbeats 4000000 in
set_option maxRecDepth 100000 in
theorem w_X0_removeAt_L4 {p : Program} {l : Launch} {e : Env} {s : State} {m : MethodId} {args : Array Value} {below : List Frame} {meth : Method} {c : Code} {E : EE} {g : GG} {ad : Nat → Nat} (hg : gwf g) (X : CallFix p m c cX0_removeAt 3 s args wsX0_removeAt RX0) (K : Kn E s) (hr : meth.sig.returnType = none) (hlk : meth.locks = false) {Q : Mm → Prop} : ∀ (n : Nat) (o0 : Nat) (x2 : Int) (M : Mm) (H : Heap) (locs : List Loc) (ls : Array Slot), gk g o0 = 0 → Rw E g ad M s.heap H locs → lv_has ls 3 [(0, .ref (ad o0)), (2, cI x2)] → p_X0_removeAt_L4 g n o0 x2 M Q → W p l e rmX0_removeAt s m args below meth c H locs 0 0 (MQ below (QV E g ad Q) args s 0 0 (Rg g ad)) (F0 m 4 ls []) := by
  intro n
  induction n with
  | zero =>
    intro o0 x2 M H locs ls k_o0 w hl h
    exact absurd h (by unfold p_X0_removeAt_L4; exact id)
  | succ n ih =>
    intro o0 x2 M H locs ls k_o0 w hl h
    unfold p_X0_removeAt_L4 at h
    refine lv_iload_n X.1 X.2.1 dX0_removeAt_4 rfl (lv_at hl 1 rfl) ?_
    refine lv_aload_n X.1 X.2.1 dX0_removeAt_5 rfl (lv_at hl 0 rfl) ?_
    refine r_geti (N := 6) (T := TX0) (kz := 5) X K w iX0_removeAt_0 k_o0 rfl (by decide) 5 (by decide) rfl rfl rfl (List.mem_of_getElem? (i := 1) rfl) dX0_removeAt_6 ?_
    obtain ⟨i0, i1, h1, h2⟩ := h
    refine r_icmp_ge (tgt := 26) X i0 i1 dX0_removeAt_9 (by decide) (fun cc => ?_) (fun cc => ?_)
    · have h := h1 cc
      refine lv_aload_n X.1 X.2.1 dX0_removeAt_26 rfl (lv_at hl 0 rfl) ?_
      refine lv_dup X.1 X.2.1 dX0_removeAt_27 rfl ?_
      refine r_geti (N := 6) (T := TX0) (kz := 5) X K w iX0_removeAt_0 k_o0 rfl (by decide) 5 (by decide) rfl rfl rfl (List.mem_of_getElem? (i := 1) rfl) dX0_removeAt_28 ?_
      refine r_iconst X dX0_removeAt_31 ?_
      refine r_isub X dX0_removeAt_32 ?_
      refine r_puti (N := 6) (T := TX0) (kz := 5) (ty := .int) X K w iX0_removeAt_0 tyX0 tyX0_ok nmX0 k_o0 rfl (by decide) 5 (by decide) rfl rfl rfl rfl (by decide +kernel) rfl rfl (List.mem_of_getElem? (i := 1) rfl) dX0_removeAt_33 (fun M1 H locs e w => ?_)
      replace h := h M1 e
      exact r_return X hr hlk K w h dX0_removeAt_36
    · have h := h2 cc
      refine lv_aload_n X.1 X.2.1 dX0_removeAt_12 rfl (lv_at hl 0 rfl) ?_
      refine lv_iload_n X.1 X.2.1 dX0_removeAt_13 rfl (lv_at hl 1 rfl) ?_
      refine r_iconst X dX0_removeAt_14 ?_
      refine r_isub X dX0_removeAt_15 ?_
      refine lv_iload_n X.1 X.2.1 dX0_removeAt_16 rfl (lv_at hl 1 rfl) ?_
      refine q_v (x_V (As := [cI (x2 - 1), cI x2]) (rest := []) X K w (c_X0_swap hg k_o0 h) (cwV 2 X.2.2.2.2 gX0_removeAt_X0_swap rfl rfl rfl (by decide +kernel) ⟨Nat.le_of_ble_eq_true rfl, Nat.le_of_ble_eq_true rfl⟩) k_o0 (by decide) rfl rfl hl rfl (Nat.le_of_ble_eq_true rfl) dX0_removeAt_17 ⟨Nat.le_of_ble_eq_true rfl, Nat.le_of_ble_eq_true rfl⟩) w (fun M2 H locs h w => ?_)
      refine r_iinc (lv' := [(2, cI (x2 + 1)), (0, .ref (ad o0))]) X hl (k := 1) rfl (by decide) dX0_removeAt_20 rfl (fun ls hl => ?_)
      refine lv_goto (tgt := 4) X.1 X.2.1 dX0_removeAt_23 (by decide) ?_
      exact ih o0 (x2 + 1) M2 _ _ _ k_o0 w (lv_sub hl [1, 0] rfl) h
set_option maxHeartbeats 4000000 in
set_option maxRecDepth 100000 in
theorem c_X0_removeAt {E : EE} {l : Launch} {g : GG} {ad : Nat → Nat} (hg : gwf g) {o0 : Nat} {x1 : Int} {M : Mm} {Q : Mm → Prop} (k_o0 : gk g o0 = 0) (h : p_X0_removeAt g o0 x1 M Q) : Ct E l yX0_removeAt wsX0_removeAt rmX0_removeAt g ad [.ref (ad o0), cI x1] M (QV E g ad Q) := by
  refine ent (cc := cX0_removeAt) (maxL := 3) (ret := none) (own := RX0) (by decide +kernel) rfl rfl (Nat.le_of_ble_eq_true rfl) ?_
  intro p e s m below meth c ls X hr hlk K w hl
  have hl : lv_has ls 3 [(0, .ref (ad o0)), (1, cI x1)] := hl
  unfold p_X0_removeAt at h
  refine lv_iload_n X.1 X.2.1 dX0_removeAt_0 rfl (lv_at hl 1 rfl) ?_
  refine r_iconst X dX0_removeAt_1 ?_
  refine r_iadd X dX0_removeAt_2 ?_
  refine lv_istore_n (lv' := [(2, cI (x1 + 1)), (0, .ref (ad o0)), (1, cI x1)]) X.1 X.2.1 dX0_removeAt_3 rfl hl (by decide) rfl (fun ls hl => ?_)
  obtain ⟨n3, h⟩ := h
  exact w_X0_removeAt_L4 hg X K hr hlk n3 o0 (x1 + 1) M _ _ _ k_o0 w (lv_sub hl [1, 0] rfl) h
theorem dX0_removeScene_0 : decode cX0_removeScene 0 = .ok (.iconst 0, 1) := by decide +kernel
theorem dX0_removeScene_1 : decode cX0_removeScene 1 = .ok (.istore_n 2, 1) := by decide +kernel
theorem dX0_removeScene_2 : decode cX0_removeScene 2 = .ok (.iconst 0, 1) := by decide +kernel
theorem dX0_removeScene_3 : decode cX0_removeScene 3 = .ok (.istore_n 3, 1) := by decide +kernel
theorem dX0_removeScene_4 : decode cX0_removeScene 4 = .ok (.iload_n 3, 1) := by decide +kernel
theorem dX0_removeScene_5 : decode cX0_removeScene 5 = .ok (.aload_n 0, 1) := by decide +kernel
theorem dX0_removeScene_6 : decode cX0_removeScene 6 = .ok (.getfield 9, 3) := by decide +kernel
theorem dX0_removeScene_9 : decode cX0_removeScene 9 = .ok (.if_icmp .ge 30, 3) := by decide +kernel
theorem dX0_removeScene_12 : decode cX0_removeScene 12 = .ok (.aload_n 0, 1) := by decide +kernel
theorem dX0_removeScene_13 : decode cX0_removeScene 13 = .ok (.getfield 27, 3) := by decide +kernel
theorem dX0_removeScene_16 : decode cX0_removeScene 16 = .ok (.iload_n 3, 1) := by decide +kernel
theorem dX0_removeScene_17 : decode cX0_removeScene 17 = .ok (.invokevirtual 46, 3) := by decide +kernel
theorem dX0_removeScene_20 : decode cX0_removeScene 20 = .ok (.iload_n 1, 1) := by decide +kernel
theorem dX0_removeScene_21 : decode cX0_removeScene 21 = .ok (.if_icmp .eq 12, 3) := by decide +kernel
theorem dX0_removeScene_24 : decode cX0_removeScene 24 = .ok (.aload_n 0, 1) := by decide +kernel
theorem dX0_removeScene_25 : decode cX0_removeScene 25 = .ok (.iload_n 2, 1) := by decide +kernel
theorem dX0_removeScene_26 : decode cX0_removeScene 26 = .ok (.iload_n 3, 1) := by decide +kernel
theorem dX0_removeScene_27 : decode cX0_removeScene 27 = .ok (.invokevirtual 57, 3) := by decide +kernel
theorem dX0_removeScene_30 : decode cX0_removeScene 30 = .ok (.iinc 2 1, 3) := by decide +kernel
theorem dX0_removeScene_33 : decode cX0_removeScene 33 = .ok (.iinc 3 1, 3) := by decide +kernel
theorem dX0_removeScene_36 : decode cX0_removeScene 36 = .ok (.goto (-32), 3) := by decide +kernel
theorem dX0_removeScene_39 : decode cX0_removeScene 39 = .ok (.aload_n 0, 1) := by decide +kernel
theorem dX0_removeScene_40 : decode cX0_removeScene 40 = .ok (.iload_n 2, 1) := by decide +kernel
theorem dX0_removeScene_41 : decode cX0_removeScene 41 = .ok (.putfield 9, 3) := by decide +kernel
theorem dX0_removeScene_44 : decode cX0_removeScene 44 = .ok (.return_, 1) := by decide +kernel
set_option maxRecDepth 20000 in
theorem ggX0_removeScene_X0_swap : GoodIn wsX0_removeScene wsX0_swap := goodIn_r _ [13, 14, 2, 15, 16, 17, 18, 19, 6, 20, 21, 4, 5, 7, 8, 22, 23, 24, 25, 26, 27, 28, 29, 30, 31, 32] (by decide +kernel) (by decide +kernel)
set_option maxRecDepth 20000 in
theorem gX0_removeScene_X0_swap : GoodIn wsX0_removeScene (wsV RX0 57 RX0 yX0_swap wsX0_swap) := goodIn_app (goodIn_of _ (by decide +kernel)) ggX0_removeScene_X0_swap
set_option maxRecDepth 20000 in
theorem ggX0_removeScene_X4_get : GoodIn wsX0_removeScene wsX4_get := goodIn_r _ [7, 8, 32] (by decide +kernel) (by decide +kernel)
set_option maxRecDepth 20000 in
theorem gX0_removeScene_X4_get : GoodIn wsX0_removeScene (wsV RX0 46 RX4 yX4_get wsX4_get) := goodIn_app (goodIn_of _ (by decide +kernel)) ggX0_removeScene_X4_get
theorem iX0_removeScene_0 : ∀ w ∈ u_ws RX0 TX0 6, w ∈ wsX0_removeScene := fun w h => List.mem_cons_of_mem _ (List.mem_append_left _ (List.mem_append_right _ (h)))
set_option maxHeartbeats 4000000 in
set_option maxRecDepth 100000 in
theorem w_X0_removeScene_L4 {p : Program} {l : Launch} {e : Env} {s : State} {m : MethodId} {args : Array Value} {below : List Frame} {meth : Method} {c : Code} {E : EE} {g : GG} {ad : Nat → Nat} (hg : gwf g) (X : CallFix p m c cX0_removeScene 4 s args wsX0_removeScene RX0) (K : Kn E s) (hr : meth.sig.returnType = none) (hlk : meth.locks = false) {Q : Mm → Prop} : ∀ (n : Nat) (o0 : Nat) (x1 : Int) (x2 : Int) (x3 : Int) (M : Mm) (H : Heap) (locs : List Loc) (ls : Array Slot), gk g o0 = 0 → Rw E g ad M s.heap H locs → lv_has ls 4 [(0, .ref (ad o0)), (1, cI x1), (2, cI x2), (3, cI x3)] → p_X0_removeScene_L4 g n o0 x1 x2 x3 M Q → W p l e rmX0_removeScene s m args below meth c H locs 0 0 (MQ below (QV E g ad Q) args s 0 0 (Rg g ad)) (F0 m 4 ls []) := by
  intro n
  induction n with
  | zero =>
    intro o0 x1 x2 x3 M H locs ls k_o0 w hl h
    exact absurd h (by unfold p_X0_removeScene_L4; exact id)
  | succ n ih =>
    intro o0 x1 x2 x3 M H locs ls k_o0 w hl h
    unfold p_X0_removeScene_L4 at h
    refine lv_iload_n X.1 X.2.1 dX0_removeScene_4 rfl (lv_at hl 3 rfl) ?_
    refine lv_aload_n X.1 X.2.1 dX0_removeScene_5 rfl (lv_at hl 0 rfl) ?_
    refine r_geti (N := 6) (T := TX0) (kz := 5) X K w iX0_removeScene_0 k_o0 rfl (by decide) 5 (by decide) rfl rfl rfl (List.mem_of_getElem? (i := 1) rfl) dX0_removeScene_6 ?_
    obtain ⟨i0, i1, h1, h2⟩ := h
    refine r_icmp_ge (tgt := 39) X i0 i1 dX0_removeScene_9 (by decide) (fun cc => ?_) (fun cc => ?_)
    · have h := h1 cc
      refine lv_aload_n X.1 X.2.1 dX0_removeScene_39 rfl (lv_at hl 0 rfl) ?_
      refine lv_iload_n X.1 X.2.1 dX0_removeScene_40 rfl (lv_at hl 2 rfl) ?_
      refine r_puti (N := 6) (T := TX0) (kz := 5) (ty := .int) X K w iX0_removeScene_0 tyX0 tyX0_ok nmX0 k_o0 rfl (by decide) 5 (by decide) rfl rfl rfl rfl (by decide +kernel) rfl rfl (List.mem_of_getElem? (i := 1) rfl) dX0_removeScene_41 (fun M1 H locs e w => ?_)
      replace h := h M1 e
      exact r_return X hr hlk K w h dX0_removeScene_44
    · have h := h2 cc
      refine lv_aload_n X.1 X.2.1 dX0_removeScene_12 rfl (lv_at hl 0 rfl) ?_
      refine r_getr (N := 6) (T := TX0) X K w iX0_removeScene_0 k_o0 rfl (by decide) 2 (by decide) rfl rfl (List.mem_of_getElem? (i := 2) rfl) dX0_removeScene_13 ?_
      have k2 : gk g (o0 + 3) = 4 := gch hg k_o0 (by decide) 2 (by decide) rfl rfl
      refine lv_iload_n X.1 X.2.1 dX0_removeScene_16 rfl (lv_at hl 3 rfl) ?_
      refine q_i (x_V (As := [cI x3]) (rest := []) X K w (c_X4_get hg k2 h) (cwV 1 X.2.2.2.2 gX0_removeScene_X4_get rfl rfl rfl (by decide +kernel) ⟨Nat.le_of_ble_eq_true rfl, Nat.le_of_ble_eq_true rfl⟩) k2 (by decide) rfl rfl hl rfl (Nat.le_of_ble_eq_true rfl) dX0_removeScene_17 ⟨Nat.le_of_ble_eq_true rfl, Nat.le_of_ble_eq_true rfl⟩) w (fun r4 M3 H locs h w => ?_)
      refine lv_iload_n X.1 X.2.1 dX0_removeScene_20 rfl (lv_at hl 1 rfl) ?_
      obtain ⟨i0, i1, h1, h2⟩ := h
      refine r_icmp_eq (tgt := 33) X i0 i1 dX0_removeScene_21 (by decide) (fun cc => ?_) (fun cc => ?_)
      · have h := h1 cc
        refine r_iinc (lv' := [(3, cI (x3 + 1)), (0, .ref (ad o0)), (1, cI x1), (2, cI x2)]) X hl (k := 3) rfl (by decide) dX0_removeScene_33 rfl (fun ls hl => ?_)
        refine lv_goto (tgt := 4) X.1 X.2.1 dX0_removeScene_36 (by decide) ?_
        exact ih o0 x1 x2 (x3 + 1) M3 _ _ _ k_o0 w (lv_sub hl [1, 2, 3, 0] rfl) h
      · have h := h2 cc
        refine lv_aload_n X.1 X.2.1 dX0_removeScene_24 rfl (lv_at hl 0 rfl) ?_
        refine lv_iload_n X.1 X.2.1 dX0_removeScene_25 rfl (lv_at hl 2 rfl) ?_
        refine lv_iload_n X.1 X.2.1 dX0_removeScene_26 rfl (lv_at hl 3 rfl) ?_
        refine q_v (x_V (As := [cI x2, cI x3]) (rest := []) X K w (c_X0_swap hg k_o0 h) (cwV 2 X.2.2.2.2 gX0_removeScene_X0_swap rfl rfl rfl (by decide +kernel) ⟨Nat.le_of_ble_eq_true rfl, Nat.le_of_ble_eq_true rfl⟩) k_o0 (by decide) rfl rfl hl rfl (Nat.le_of_ble_eq_true rfl) dX0_removeScene_27 ⟨Nat.le_of_ble_eq_true rfl, Nat.le_of_ble_eq_true rfl⟩) w (fun M5 H locs h w => ?_)
        refine r_iinc (lv' := [(2, cI (x2 + 1)), (0, .ref (ad o0)), (1, cI x1), (3, cI x3)]) X hl (k := 2) rfl (by decide) dX0_removeScene_30 rfl (fun ls hl => ?_)
        refine r_iinc (lv' := [(3, cI (x3 + 1)), (2, cI (x2 + 1)), (0, .ref (ad o0)), (1, cI x1)]) X hl (k := 3) rfl (by decide) dX0_removeScene_33 rfl (fun ls hl => ?_)
        refine lv_goto (tgt := 4) X.1 X.2.1 dX0_removeScene_36 (by decide) ?_
        exact ih o0 x1 (x2 + 1) (x3 + 1) M5 _ _ _ k_o0 w (lv_sub hl [2, 3, 1, 0] rfl) h
set_option maxHeartbeats 4000000 in
set_option maxRecDepth 100000 in
theorem c_X0_removeScene {E : EE} {l : Launch} {g : GG} {ad : Nat → Nat} (hg : gwf g) {o0 : Nat} {x1 : Int} {M : Mm} {Q : Mm → Prop} (k_o0 : gk g o0 = 0) (h : p_X0_removeScene g o0 x1 M Q) : Ct E l yX0_removeScene wsX0_removeScene rmX0_removeScene g ad [.ref (ad o0), cI x1] M (QV E g ad Q) := by
  refine ent (cc := cX0_removeScene) (maxL := 4) (ret := none) (own := RX0) (by decide +kernel) rfl rfl (Nat.le_of_ble_eq_true rfl) ?_
  intro p e s m below meth c ls X hr hlk K w hl
  have hl : lv_has ls 4 [(0, .ref (ad o0)), (1, cI x1)] := hl
  unfold p_X0_removeScene at h
  refine r_iconst X dX0_removeScene_0 ?_
  refine lv_istore_n (lv' := [(2, cI 0), (0, .ref (ad o0)), (1, cI x1)]) X.1 X.2.1 dX0_removeScene_1 rfl hl (by decide) rfl (fun ls hl => ?_)
  refine r_iconst X dX0_removeScene_2 ?_
  refine lv_istore_n (lv' := [(3, cI 0), (2, cI 0), (0, .ref (ad o0)), (1, cI x1)]) X.1 X.2.1 dX0_removeScene_3 rfl hl (by decide) rfl (fun ls hl => ?_)
  obtain ⟨n6, h⟩ := h
  exact w_X0_removeScene_L4 hg X K hr hlk n6 o0 x1 0 0 M _ _ _ k_o0 w (lv_sub hl [2, 3, 1, 0] rfl) h
theorem dX7_isWithin_0 : decode cX7_isWithin 0 = .ok (.iload_n 0, 1) := by decide +kernel
theorem dX7_isWithin_1 : decode cX7_isWithin 1 = .ok (.iload_n 1, 1) := by decide +kernel
theorem dX7_isWithin_2 : decode cX7_isWithin 2 = .ok (.if_icmp .lt 12, 3) := by decide +kernel
theorem dX7_isWithin_5 : decode cX7_isWithin 5 = .ok (.iload_n 0, 1) := by decide +kernel
theorem dX7_isWithin_6 : decode cX7_isWithin 6 = .ok (.iload_n 2, 1) := by decide +kernel
theorem dX7_isWithin_7 : decode cX7_isWithin 7 = .ok (.if_icmp .gt 7, 3) := by decide +kernel
theorem dX7_isWithin_10 : decode cX7_isWithin 10 = .ok (.iconst 1, 1) := by decide +kernel
theorem dX7_isWithin_11 : decode cX7_isWithin 11 = .ok (.goto 4, 3) := by decide +kernel
theorem dX7_isWithin_14 : decode cX7_isWithin 14 = .ok (.iconst 0, 1) := by decide +kernel
theorem dX7_isWithin_15 : decode cX7_isWithin 15 = .ok (.ireturn, 1) := by decide +kernel
set_option maxHeartbeats 4000000 in
set_option maxRecDepth 100000 in
theorem c_X7_isWithin {E : EE} {l : Launch} {g : GG} {ad : Nat → Nat} (hg : gwf g) {x0 : Int} {x1 : Int} {x2 : Int} {M : Mm} {Q : Int → Mm → Prop} (h : p_X7_isWithin g x0 x1 x2 M Q) : Ct E l yX7_isWithin wsX7_isWithin rmX7_isWithin g ad [cI x0, cI x1, cI x2] M (QI E g ad Q) := by
  refine ent (cc := cX7_isWithin) (maxL := 3) (ret := (some .boolean)) (own := RX7) (by decide +kernel) rfl rfl (Nat.le_of_ble_eq_true rfl) ?_
  intro p e s m below meth c ls X hr hlk K w hl
  have hl : lv_has ls 3 [(0, cI x0), (1, cI x1), (2, cI x2)] := hl
  unfold p_X7_isWithin at h
  refine lv_iload_n X.1 X.2.1 dX7_isWithin_0 rfl (lv_at hl 0 rfl) ?_
  refine lv_iload_n X.1 X.2.1 dX7_isWithin_1 rfl (lv_at hl 1 rfl) ?_
  obtain ⟨i0, i1, h1, h2⟩ := h
  refine r_icmp_lt (tgt := 14) X i0 i1 dX7_isWithin_2 (by decide) (fun cc => ?_) (fun cc => ?_)
  · have h := h1 cc
    refine r_iconst X dX7_isWithin_14 ?_
    exact r_zreturn X hr hlk K w (by decide +kernel) h dX7_isWithin_15
  · have h := h2 cc
    refine lv_iload_n X.1 X.2.1 dX7_isWithin_5 rfl (lv_at hl 0 rfl) ?_
    refine lv_iload_n X.1 X.2.1 dX7_isWithin_6 rfl (lv_at hl 2 rfl) ?_
    obtain ⟨i0, i1, h1, h2⟩ := h
    refine r_icmp_gt (tgt := 14) X i0 i1 dX7_isWithin_7 (by decide) (fun cc => ?_) (fun cc => ?_)
    · have h := h1 cc
      refine r_iconst X dX7_isWithin_14 ?_
      exact r_zreturn X hr hlk K w (by decide +kernel) h dX7_isWithin_15
    · have h := h2 cc
      refine r_iconst X dX7_isWithin_10 ?_
      refine lv_goto (tgt := 15) X.1 X.2.1 dX7_isWithin_11 (by decide) ?_
      exact r_zreturn X hr hlk K w (by decide +kernel) h dX7_isWithin_15
theorem dX0_canMove_0 : decode cX0_canMove 0 = .ok (.iconst 0, 1) := by decide +kernel
theorem dX0_canMove_1 : decode cX0_canMove 1 = .ok (.istore_n 3, 1) := by decide +kernel
theorem dX0_canMove_2 : decode cX0_canMove 2 = .ok (.iload_n 3, 1) := by decide +kernel
theorem dX0_canMove_3 : decode cX0_canMove 3 = .ok (.aload_n 0, 1) := by decide +kernel
theorem dX0_canMove_4 : decode cX0_canMove 4 = .ok (.getfield 9, 3) := by decide +kernel
theorem dX0_canMove_7 : decode cX0_canMove 7 = .ok (.if_icmp .ge 43, 3) := by decide +kernel
theorem dX0_canMove_10 : decode cX0_canMove 10 = .ok (.aload_n 0, 1) := by decide +kernel
theorem dX0_canMove_11 : decode cX0_canMove 11 = .ok (.getfield 27, 3) := by decide +kernel
theorem dX0_canMove_14 : decode cX0_canMove 14 = .ok (.iload_n 3, 1) := by decide +kernel
theorem dX0_canMove_15 : decode cX0_canMove 15 = .ok (.invokevirtual 46, 3) := by decide +kernel
theorem dX0_canMove_18 : decode cX0_canMove 18 = .ok (.iload_n 1, 1) := by decide +kernel
theorem dX0_canMove_19 : decode cX0_canMove 19 = .ok (.if_icmp .ne 25, 3) := by decide +kernel
theorem dX0_canMove_22 : decode cX0_canMove 22 = .ok (.aload_n 0, 1) := by decide +kernel
theorem dX0_canMove_23 : decode cX0_canMove 23 = .ok (.getfield 23, 3) := by decide +kernel
theorem dX0_canMove_26 : decode cX0_canMove 26 = .ok (.iload_n 3, 1) := by decide +kernel
theorem dX0_canMove_27 : decode cX0_canMove 27 = .ok (.invokevirtual 46, 3) := by decide +kernel
theorem dX0_canMove_30 : decode cX0_canMove 30 = .ok (.iload_n 2, 1) := by decide +kernel
theorem dX0_canMove_31 : decode cX0_canMove 31 = .ok (.iadd, 1) := by decide +kernel
theorem dX0_canMove_32 : decode cX0_canMove 32 = .ok (.iconst 0, 1) := by decide +kernel
theorem dX0_canMove_33 : decode cX0_canMove 33 = .ok (.sipush 999, 3) := by decide +kernel
theorem dX0_canMove_36 : decode cX0_canMove 36 = .ok (.invokestatic 60, 3) := by decide +kernel
theorem dX0_canMove_39 : decode cX0_canMove 39 = .ok (.ifCond .ne 5, 3) := by decide +kernel
theorem dX0_canMove_42 : decode cX0_canMove 42 = .ok (.iconst 0, 1) := by decide +kernel
theorem dX0_canMove_43 : decode cX0_canMove 43 = .ok (.ireturn, 1) := by decide +kernel
theorem dX0_canMove_44 : decode cX0_canMove 44 = .ok (.iinc 3 1, 3) := by decide +kernel
theorem dX0_canMove_47 : decode cX0_canMove 47 = .ok (.goto (-45), 3) := by decide +kernel
theorem dX0_canMove_50 : decode cX0_canMove 50 = .ok (.iconst 1, 1) := by decide +kernel
theorem dX0_canMove_51 : decode cX0_canMove 51 = .ok (.ireturn, 1) := by decide +kernel
set_option maxRecDepth 20000 in
theorem ggX0_canMove_X4_get : GoodIn wsX0_canMove wsX4_get := goodIn_r _ [8, 9, 19] (by decide +kernel) (by decide +kernel)
set_option maxRecDepth 20000 in
theorem gX0_canMove_X4_get : GoodIn wsX0_canMove (wsV RX0 46 RX4 yX4_get wsX4_get) := goodIn_app (goodIn_of _ (by decide +kernel)) ggX0_canMove_X4_get
set_option maxRecDepth 20000 in
theorem ggX0_canMove_X7_isWithin : GoodIn wsX0_canMove wsX7_isWithin := goodIn_r _ [12] (by decide +kernel) (by decide +kernel)
set_option maxRecDepth 20000 in
theorem gX0_canMove_X7_isWithin_n60 : GoodIn wsX0_canMove (wsX7_isWithin) := ggX0_canMove_X7_isWithin
theorem iX0_canMove_0 : ∀ w ∈ u_ws RX0 TX0 6, w ∈ wsX0_canMove := fun w h => List.mem_cons_of_mem _ (List.mem_append_left _ (List.mem_append_right _ (h)))
set_option maxHeartbeats 4000000 in
set_option maxRecDepth 100000 in
theorem w_X0_canMove_L2 {p : Program} {l : Launch} {e : Env} {s : State} {m : MethodId} {args : Array Value} {below : List Frame} {meth : Method} {c : Code} {E : EE} {g : GG} {ad : Nat → Nat} (hg : gwf g) (X : CallFix p m c cX0_canMove 4 s args wsX0_canMove RX0) (K : Kn E s) (hr : meth.sig.returnType = (some .boolean)) (hlk : meth.locks = false) {Q : Int → Mm → Prop} : ∀ (n : Nat) (o0 : Nat) (x1 : Int) (x2 : Int) (x3 : Int) (M : Mm) (H : Heap) (locs : List Loc) (ls : Array Slot), gk g o0 = 0 → Rw E g ad M s.heap H locs → lv_has ls 4 [(0, .ref (ad o0)), (1, cI x1), (2, cI x2), (3, cI x3)] → p_X0_canMove_L2 g n o0 x1 x2 x3 M Q → W p l e rmX0_canMove s m args below meth c H locs 0 0 (MQ below (QI E g ad Q) args s 0 0 (Rg g ad)) (F0 m 2 ls []) := by
  intro n
  induction n with
  | zero =>
    intro o0 x1 x2 x3 M H locs ls k_o0 w hl h
    exact absurd h (by unfold p_X0_canMove_L2; exact id)
  | succ n ih =>
    intro o0 x1 x2 x3 M H locs ls k_o0 w hl h
    unfold p_X0_canMove_L2 at h
    refine lv_iload_n X.1 X.2.1 dX0_canMove_2 rfl (lv_at hl 3 rfl) ?_
    refine lv_aload_n X.1 X.2.1 dX0_canMove_3 rfl (lv_at hl 0 rfl) ?_
    refine r_geti (N := 6) (T := TX0) (kz := 5) X K w iX0_canMove_0 k_o0 rfl (by decide) 5 (by decide) rfl rfl rfl (List.mem_of_getElem? (i := 1) rfl) dX0_canMove_4 ?_
    obtain ⟨i0, i1, h1, h2⟩ := h
    refine r_icmp_ge (tgt := 50) X i0 i1 dX0_canMove_7 (by decide) (fun cc => ?_) (fun cc => ?_)
    · have h := h1 cc
      refine r_iconst X dX0_canMove_50 ?_
      exact r_zreturn X hr hlk K w (by decide +kernel) h dX0_canMove_51
    · have h := h2 cc
      refine lv_aload_n X.1 X.2.1 dX0_canMove_10 rfl (lv_at hl 0 rfl) ?_
      refine r_getr (N := 6) (T := TX0) X K w iX0_canMove_0 k_o0 rfl (by decide) 2 (by decide) rfl rfl (List.mem_of_getElem? (i := 2) rfl) dX0_canMove_11 ?_
      have k1 : gk g (o0 + 3) = 4 := gch hg k_o0 (by decide) 2 (by decide) rfl rfl
      refine lv_iload_n X.1 X.2.1 dX0_canMove_14 rfl (lv_at hl 3 rfl) ?_
      refine q_i (x_V (As := [cI x3]) (rest := []) X K w (c_X4_get hg k1 h) (cwV 1 X.2.2.2.2 gX0_canMove_X4_get rfl rfl rfl (by decide +kernel) ⟨Nat.le_of_ble_eq_true rfl, Nat.le_of_ble_eq_true rfl⟩) k1 (by decide) rfl rfl hl rfl (Nat.le_of_ble_eq_true rfl) dX0_canMove_15 ⟨Nat.le_of_ble_eq_true rfl, Nat.le_of_ble_eq_true rfl⟩) w (fun r3 M2 H locs h w => ?_)
      refine lv_iload_n X.1 X.2.1 dX0_canMove_18 rfl (lv_at hl 1 rfl) ?_
      obtain ⟨i0, i1, h1, h2⟩ := h
      refine r_icmp_ne (tgt := 44) X i0 i1 dX0_canMove_19 (by decide) (fun cc => ?_) (fun cc => ?_)
      · have h := h1 cc
        refine r_iinc (lv' := [(3, cI (x3 + 1)), (0, .ref (ad o0)), (1, cI x1), (2, cI x2)]) X hl (k := 3) rfl (by decide) dX0_canMove_44 rfl (fun ls hl => ?_)
        refine lv_goto (tgt := 2) X.1 X.2.1 dX0_canMove_47 (by decide) ?_
        exact ih o0 x1 x2 (x3 + 1) M2 _ _ _ k_o0 w (lv_sub hl [1, 2, 3, 0] rfl) h
      · have h := h2 cc
        refine lv_aload_n X.1 X.2.1 dX0_canMove_22 rfl (lv_at hl 0 rfl) ?_
        refine r_getr (N := 6) (T := TX0) X K w iX0_canMove_0 k_o0 rfl (by decide) 1 (by decide) rfl rfl (List.mem_of_getElem? (i := 3) rfl) dX0_canMove_23 ?_
        have k4 : gk g (o0 + 1) = 4 := gch hg k_o0 (by decide) 1 (by decide) rfl rfl
        refine lv_iload_n X.1 X.2.1 dX0_canMove_26 rfl (lv_at hl 3 rfl) ?_
        refine q_i (x_V (As := [cI x3]) (rest := []) X K w (c_X4_get hg k4 h) (cwV 1 X.2.2.2.2 gX0_canMove_X4_get rfl rfl rfl (by decide +kernel) ⟨Nat.le_of_ble_eq_true rfl, Nat.le_of_ble_eq_true rfl⟩) k4 (by decide) rfl rfl hl rfl (Nat.le_of_ble_eq_true rfl) dX0_canMove_27 ⟨Nat.le_of_ble_eq_true rfl, Nat.le_of_ble_eq_true rfl⟩) w (fun r6 M5 H locs h w => ?_)
        refine lv_iload_n X.1 X.2.1 dX0_canMove_30 rfl (lv_at hl 2 rfl) ?_
        refine r_iadd X dX0_canMove_31 ?_
        refine r_iconst X dX0_canMove_32 ?_
        refine r_sipush X dX0_canMove_33 (by decide +kernel) ?_
        refine q_i (x_SN (As := [cI (r6 + x2), cI 0, cI 999]) (rest := []) X K w (c_X7_isWithin hg h) ⟨va_cnB 3 X.2.2.2.2 gX0_canMove_X7_isWithin_n60 rfl rfl rfl (K.2.2 _ (List.mem_of_getElem? (i := 5) rfl)) (X.2.2.2.2 _ (List.mem_of_getElem? (i := 11) rfl)) (by decide +kernel) ⟨Nat.le_of_ble_eq_true rfl, Nat.le_of_ble_eq_true rfl⟩, X.2.2.2.2 _ (List.mem_of_getElem? (i := 10) rfl), trivial⟩ rfl hl rfl (Nat.le_of_ble_eq_true rfl) dX0_canMove_36 ⟨Nat.le_of_ble_eq_true rfl, Nat.le_of_ble_eq_true rfl⟩) w (fun r8 M7 H locs h w => ?_)
        obtain ⟨i0, h1, h2⟩ := h
        refine r_if_ne (tgt := 44) X i0 dX0_canMove_39 (by decide) (fun cc => ?_) (fun cc => ?_)
        · have h := h1 cc
          refine r_iinc (lv' := [(3, cI (x3 + 1)), (0, .ref (ad o0)), (1, cI x1), (2, cI x2)]) X hl (k := 3) rfl (by decide) dX0_canMove_44 rfl (fun ls hl => ?_)
          refine lv_goto (tgt := 2) X.1 X.2.1 dX0_canMove_47 (by decide) ?_
          exact ih o0 x1 x2 (x3 + 1) M7 _ _ _ k_o0 w (lv_sub hl [1, 2, 3, 0] rfl) h
        · have h := h2 cc
          refine r_iconst X dX0_canMove_42 ?_
          exact r_zreturn X hr hlk K w (by decide +kernel) h dX0_canMove_43
set_option maxHeartbeats 4000000 in
set_option maxRecDepth 100000 in
theorem c_X0_canMove {E : EE} {l : Launch} {g : GG} {ad : Nat → Nat} (hg : gwf g) {o0 : Nat} {x1 : Int} {x2 : Int} {M : Mm} {Q : Int → Mm → Prop} (k_o0 : gk g o0 = 0) (h : p_X0_canMove g o0 x1 x2 M Q) : Ct E l yX0_canMove wsX0_canMove rmX0_canMove g ad [.ref (ad o0), cI x1, cI x2] M (QI E g ad Q) := by
  refine ent (cc := cX0_canMove) (maxL := 4) (ret := (some .boolean)) (own := RX0) (by decide +kernel) rfl rfl (Nat.le_of_ble_eq_true rfl) ?_
  intro p e s m below meth c ls X hr hlk K w hl
  have hl : lv_has ls 4 [(0, .ref (ad o0)), (1, cI x1), (2, cI x2)] := hl
  unfold p_X0_canMove at h
  refine r_iconst X dX0_canMove_0 ?_
  refine lv_istore_n (lv' := [(3, cI 0), (0, .ref (ad o0)), (1, cI x1), (2, cI x2)]) X.1 X.2.1 dX0_canMove_1 rfl hl (by decide) rfl (fun ls hl => ?_)
  obtain ⟨n9, h⟩ := h
  exact w_X0_canMove_L2 hg X K hr hlk n9 o0 x1 x2 0 M _ _ _ k_o0 w (lv_sub hl [1, 2, 3, 0] rfl) h
theorem dX4_increase_0 : decode cX4_increase 0 = .ok (.aload_n 0, 1) := by decide +kernel
theorem dX4_increase_1 : decode cX4_increase 1 = .ok (.iload_n 1, 1) := by decide +kernel
theorem dX4_increase_2 : decode cX4_increase 2 = .ok (.aload_n 0, 1) := by decide +kernel
theorem dX4_increase_3 : decode cX4_increase 3 = .ok (.iload_n 1, 1) := by decide +kernel
theorem dX4_increase_4 : decode cX4_increase 4 = .ok (.invokevirtual 19, 3) := by decide +kernel
theorem dX4_increase_7 : decode cX4_increase 7 = .ok (.iload_n 2, 1) := by decide +kernel
theorem dX4_increase_8 : decode cX4_increase 8 = .ok (.iadd, 1) := by decide +kernel
theorem dX4_increase_9 : decode cX4_increase 9 = .ok (.invokevirtual 23, 3) := by decide +kernel
theorem dX4_increase_12 : decode cX4_increase 12 = .ok (.return_, 1) := by decide +kernel
set_option maxRecDepth 20000 in
theorem ggX4_increase_X4_get : GoodIn wsX4_increase wsX4_get := goodIn_r _ [5, 6, 11] (by decide +kernel) (by decide +kernel)
set_option maxRecDepth 20000 in
theorem gX4_increase_X4_get : GoodIn wsX4_increase (wsV RX4 19 RX4 yX4_get wsX4_get) := goodIn_app (goodIn_of _ (by decide +kernel)) ggX4_increase_X4_get
set_option maxRecDepth 20000 in
theorem ggX4_increase_X4_put : GoodIn wsX4_increase wsX4_put := goodIn_r _ [10, 6, 11] (by decide +kernel) (by decide +kernel)
set_option maxRecDepth 20000 in
theorem gX4_increase_X4_put : GoodIn wsX4_increase (wsV RX4 23 RX4 yX4_put wsX4_put) := goodIn_app (goodIn_of _ (by decide +kernel)) ggX4_increase_X4_put
set_option maxHeartbeats 4000000 in
set_option maxRecDepth 100000 in
theorem c_X4_increase {E : EE} {l : Launch} {g : GG} {ad : Nat → Nat} (hg : gwf g) {o0 : Nat} {x1 : Int} {x2 : Int} {M : Mm} {Q : Mm → Prop} (k_o0 : gk g o0 = 4) (h : p_X4_increase g o0 x1 x2 M Q) : Ct E l yX4_increase wsX4_increase rmX4_increase g ad [.ref (ad o0), cI x1, cI x2] M (QV E g ad Q) := by
  refine ent (cc := cX4_increase) (maxL := 3) (ret := none) (own := RX4) (by decide +kernel) rfl rfl (Nat.le_of_ble_eq_true rfl) ?_
  intro p e s m below meth c ls X hr hlk K w hl
  have hl : lv_has ls 3 [(0, .ref (ad o0)), (1, cI x1), (2, cI x2)] := hl
  unfold p_X4_increase at h
  refine lv_aload_n X.1 X.2.1 dX4_increase_0 rfl (lv_at hl 0 rfl) ?_
  refine lv_iload_n X.1 X.2.1 dX4_increase_1 rfl (lv_at hl 1 rfl) ?_
  refine lv_aload_n X.1 X.2.1 dX4_increase_2 rfl (lv_at hl 0 rfl) ?_
  refine lv_iload_n X.1 X.2.1 dX4_increase_3 rfl (lv_at hl 1 rfl) ?_
  refine q_i (x_V (As := [cI x1]) (rest := [cI x1, .ref (ad o0)]) X K w (c_X4_get hg k_o0 h) (cwV 1 X.2.2.2.2 gX4_increase_X4_get rfl rfl rfl (by decide +kernel) ⟨Nat.le_of_ble_eq_true rfl, Nat.le_of_ble_eq_true rfl⟩) k_o0 (by decide) rfl rfl hl rfl (Nat.le_of_ble_eq_true rfl) dX4_increase_4 ⟨Nat.le_of_ble_eq_true rfl, Nat.le_of_ble_eq_true rfl⟩) w (fun r2 M1 H locs h w => ?_)
  refine lv_iload_n X.1 X.2.1 dX4_increase_7 rfl (lv_at hl 2 rfl) ?_
  refine r_iadd X dX4_increase_8 ?_
  refine q_v (x_V (As := [cI x1, cI (r2 + x2)]) (rest := []) X K w (c_X4_put hg k_o0 h) (cwV 2 X.2.2.2.2 gX4_increase_X4_put rfl rfl rfl (by decide +kernel) ⟨Nat.le_of_ble_eq_true rfl, Nat.le_of_ble_eq_true rfl⟩) k_o0 (by decide) rfl rfl hl rfl (Nat.le_of_ble_eq_true rfl) dX4_increase_9 ⟨Nat.le_of_ble_eq_true rfl, Nat.le_of_ble_eq_true rfl⟩) w (fun M3 H locs h w => ?_)
  exact r_return X hr hlk K w h dX4_increase_12
theorem dX0_moveScene_0 : decode cX0_moveScene 0 = .ok (.iconst 0, 1) := by decide +kernel
theorem dX0_moveScene_1 : decode cX0_moveScene 1 = .ok (.istore_n 3, 1) := by decide +kernel
theorem dX0_moveScene_2 : decode cX0_moveScene 2 = .ok (.iload_n 3, 1) := by decide +kernel
theorem dX0_moveScene_3 : decode cX0_moveScene 3 = .ok (.aload_n 0, 1) := by decide +kernel
theorem dX0_moveScene_4 : decode cX0_moveScene 4 = .ok (.getfield 9, 3) := by decide +kernel
theorem dX0_moveScene_7 : decode cX0_moveScene 7 = .ok (.if_icmp .ge 30, 3) := by decide +kernel
theorem dX0_moveScene_10 : decode cX0_moveScene 10 = .ok (.aload_n 0, 1) := by decide +kernel
theorem dX0_moveScene_11 : decode cX0_moveScene 11 = .ok (.getfield 27, 3) := by decide +kernel
theorem dX0_moveScene_14 : decode cX0_moveScene 14 = .ok (.iload_n 3, 1) := by decide +kernel
theorem dX0_moveScene_15 : decode cX0_moveScene 15 = .ok (.invokevirtual 46, 3) := by decide +kernel
theorem dX0_moveScene_18 : decode cX0_moveScene 18 = .ok (.iload_n 1, 1) := by decide +kernel
theorem dX0_moveScene_19 : decode cX0_moveScene 19 = .ok (.if_icmp .ne 12, 3) := by decide +kernel
theorem dX0_moveScene_22 : decode cX0_moveScene 22 = .ok (.aload_n 0, 1) := by decide +kernel
theorem dX0_moveScene_23 : decode cX0_moveScene 23 = .ok (.getfield 23, 3) := by decide +kernel
theorem dX0_moveScene_26 : decode cX0_moveScene 26 = .ok (.iload_n 3, 1) := by decide +kernel
theorem dX0_moveScene_27 : decode cX0_moveScene 27 = .ok (.iload_n 2, 1) := by decide +kernel
theorem dX0_moveScene_28 : decode cX0_moveScene 28 = .ok (.invokevirtual 64, 3) := by decide +kernel
theorem dX0_moveScene_31 : decode cX0_moveScene 31 = .ok (.iinc 3 1, 3) := by decide +kernel
theorem dX0_moveScene_34 : decode cX0_moveScene 34 = .ok (.goto (-32), 3) := by decide +kernel
theorem dX0_moveScene_37 : decode cX0_moveScene 37 = .ok (.aload_n 0, 1) := by decide +kernel
theorem dX0_moveScene_38 : decode cX0_moveScene 38 = .ok (.invokevirtual 67, 3) := by decide +kernel
theorem dX0_moveScene_41 : decode cX0_moveScene 41 = .ok (.return_, 1) := by decide +kernel
set_option maxRecDepth 20000 in
theorem ggX0_moveScene_X0_putInOrder : GoodIn wsX0_moveScene wsX0_putInOrder := goodIn_r _ [23, 1, 24, 25, 26, 22, 27, 28, 29, 30, 31, 3, 2, 32, 4, 5, 6, 7, 8, 9, 33, 34, 35, 36, 37, 38, 39, 40, 41, 14, 15, 16, 17, 18, 42, 43, 44, 45, 46, 47, 48] (by decide +kernel) (by decide +kernel)
set_option maxRecDepth 20000 in
theorem gX0_moveScene_X0_putInOrder : GoodIn wsX0_moveScene (wsV RX0 67 RX0 yX0_putInOrder wsX0_putInOrder) := goodIn_app (goodIn_of _ (by decide +kernel)) ggX0_moveScene_X0_putInOrder
set_option maxRecDepth 20000 in
theorem ggX0_moveScene_X4_get : GoodIn wsX0_moveScene wsX4_get := goodIn_r _ [8, 9, 48] (by decide +kernel) (by decide +kernel)
set_option maxRecDepth 20000 in
theorem gX0_moveScene_X4_get : GoodIn wsX0_moveScene (wsV RX0 46 RX4 yX4_get wsX4_get) := goodIn_app (goodIn_of _ (by decide +kernel)) ggX0_moveScene_X4_get
set_option maxRecDepth 20000 in
theorem ggX0_moveScene_X4_increase : GoodIn wsX0_moveScene wsX4_increase := goodIn_r _ [13, 14, 5, 6, 7, 8, 9, 15, 16, 17, 18, 48] (by decide +kernel) (by decide +kernel)
set_option maxRecDepth 20000 in
theorem gX0_moveScene_X4_increase : GoodIn wsX0_moveScene (wsV RX0 64 RX4 yX4_increase wsX4_increase) := goodIn_app (goodIn_of _ (by decide +kernel)) ggX0_moveScene_X4_increase
theorem iX0_moveScene_0 : ∀ w ∈ u_ws RX0 TX0 6, w ∈ wsX0_moveScene := fun w h => List.mem_cons_of_mem _ (List.mem_append_left _ (List.mem_append_right _ (h)))
set_option maxHeartbeats 4000000 in
set_option maxRecDepth 100000 in
theorem w_X0_moveScene_L2 {p : Program} {l : Launch} {e : Env} {s : State} {m : MethodId} {args : Array Value} {below : List Frame} {meth : Method} {c : Code} {E : EE} {g : GG} {ad : Nat → Nat} (hg : gwf g) (X : CallFix p m c cX0_moveScene 4 s args wsX0_moveScene RX0) (K : Kn E s) (hr : meth.sig.returnType = none) (hlk : meth.locks = false) {Q : Mm → Prop} : ∀ (n : Nat) (o0 : Nat) (x1 : Int) (x2 : Int) (x3 : Int) (M : Mm) (H : Heap) (locs : List Loc) (ls : Array Slot), gk g o0 = 0 → Rw E g ad M s.heap H locs → lv_has ls 4 [(0, .ref (ad o0)), (1, cI x1), (2, cI x2), (3, cI x3)] → p_X0_moveScene_L2 g n o0 x1 x2 x3 M Q → W p l e rmX0_moveScene s m args below meth c H locs 0 0 (MQ below (QV E g ad Q) args s 0 0 (Rg g ad)) (F0 m 2 ls []) := by
  intro n
  induction n with
  | zero =>
    intro o0 x1 x2 x3 M H locs ls k_o0 w hl h
    exact absurd h (by unfold p_X0_moveScene_L2; exact id)
  | succ n ih =>
    intro o0 x1 x2 x3 M H locs ls k_o0 w hl h
    unfold p_X0_moveScene_L2 at h
    refine lv_iload_n X.1 X.2.1 dX0_moveScene_2 rfl (lv_at hl 3 rfl) ?_
    refine lv_aload_n X.1 X.2.1 dX0_moveScene_3 rfl (lv_at hl 0 rfl) ?_
    refine r_geti (N := 6) (T := TX0) (kz := 5) X K w iX0_moveScene_0 k_o0 rfl (by decide) 5 (by decide) rfl rfl rfl (List.mem_of_getElem? (i := 1) rfl) dX0_moveScene_4 ?_
    obtain ⟨i0, i1, h1, h2⟩ := h
    refine r_icmp_ge (tgt := 37) X i0 i1 dX0_moveScene_7 (by decide) (fun cc => ?_) (fun cc => ?_)
    · have h := h1 cc
      refine lv_aload_n X.1 X.2.1 dX0_moveScene_37 rfl (lv_at hl 0 rfl) ?_
      refine q_v (x_V (As := []) (rest := []) X K w (c_X0_putInOrder hg k_o0 h) (cwV 0 X.2.2.2.2 gX0_moveScene_X0_putInOrder rfl rfl rfl (by decide +kernel) ⟨Nat.le_of_ble_eq_true rfl, Nat.le_of_ble_eq_true rfl⟩) k_o0 (by decide) rfl rfl hl rfl (Nat.le_of_ble_eq_true rfl) dX0_moveScene_38 ⟨Nat.le_of_ble_eq_true rfl, Nat.le_of_ble_eq_true rfl⟩) w (fun M1 H locs h w => ?_)
      exact r_return X hr hlk K w h dX0_moveScene_41
    · have h := h2 cc
      refine lv_aload_n X.1 X.2.1 dX0_moveScene_10 rfl (lv_at hl 0 rfl) ?_
      refine r_getr (N := 6) (T := TX0) X K w iX0_moveScene_0 k_o0 rfl (by decide) 2 (by decide) rfl rfl (List.mem_of_getElem? (i := 2) rfl) dX0_moveScene_11 ?_
      have k2 : gk g (o0 + 3) = 4 := gch hg k_o0 (by decide) 2 (by decide) rfl rfl
      refine lv_iload_n X.1 X.2.1 dX0_moveScene_14 rfl (lv_at hl 3 rfl) ?_
      refine q_i (x_V (As := [cI x3]) (rest := []) X K w (c_X4_get hg k2 h) (cwV 1 X.2.2.2.2 gX0_moveScene_X4_get rfl rfl rfl (by decide +kernel) ⟨Nat.le_of_ble_eq_true rfl, Nat.le_of_ble_eq_true rfl⟩) k2 (by decide) rfl rfl hl rfl (Nat.le_of_ble_eq_true rfl) dX0_moveScene_15 ⟨Nat.le_of_ble_eq_true rfl, Nat.le_of_ble_eq_true rfl⟩) w (fun r4 M3 H locs h w => ?_)
      refine lv_iload_n X.1 X.2.1 dX0_moveScene_18 rfl (lv_at hl 1 rfl) ?_
      obtain ⟨i0, i1, h1, h2⟩ := h
      refine r_icmp_ne (tgt := 31) X i0 i1 dX0_moveScene_19 (by decide) (fun cc => ?_) (fun cc => ?_)
      · have h := h1 cc
        refine r_iinc (lv' := [(3, cI (x3 + 1)), (0, .ref (ad o0)), (1, cI x1), (2, cI x2)]) X hl (k := 3) rfl (by decide) dX0_moveScene_31 rfl (fun ls hl => ?_)
        refine lv_goto (tgt := 2) X.1 X.2.1 dX0_moveScene_34 (by decide) ?_
        exact ih o0 x1 x2 (x3 + 1) M3 _ _ _ k_o0 w (lv_sub hl [1, 2, 3, 0] rfl) h
      · have h := h2 cc
        refine lv_aload_n X.1 X.2.1 dX0_moveScene_22 rfl (lv_at hl 0 rfl) ?_
        refine r_getr (N := 6) (T := TX0) X K w iX0_moveScene_0 k_o0 rfl (by decide) 1 (by decide) rfl rfl (List.mem_of_getElem? (i := 3) rfl) dX0_moveScene_23 ?_
        have k5 : gk g (o0 + 1) = 4 := gch hg k_o0 (by decide) 1 (by decide) rfl rfl
        refine lv_iload_n X.1 X.2.1 dX0_moveScene_26 rfl (lv_at hl 3 rfl) ?_
        refine lv_iload_n X.1 X.2.1 dX0_moveScene_27 rfl (lv_at hl 2 rfl) ?_
        refine q_v (x_V (As := [cI x3, cI x2]) (rest := []) X K w (c_X4_increase hg k5 h) (cwV 2 X.2.2.2.2 gX0_moveScene_X4_increase rfl rfl rfl (by decide +kernel) ⟨Nat.le_of_ble_eq_true rfl, Nat.le_of_ble_eq_true rfl⟩) k5 (by decide) rfl rfl hl rfl (Nat.le_of_ble_eq_true rfl) dX0_moveScene_28 ⟨Nat.le_of_ble_eq_true rfl, Nat.le_of_ble_eq_true rfl⟩) w (fun M6 H locs h w => ?_)
        refine r_iinc (lv' := [(3, cI (x3 + 1)), (0, .ref (ad o0)), (1, cI x1), (2, cI x2)]) X hl (k := 3) rfl (by decide) dX0_moveScene_31 rfl (fun ls hl => ?_)
        refine lv_goto (tgt := 2) X.1 X.2.1 dX0_moveScene_34 (by decide) ?_
        exact ih o0 x1 x2 (x3 + 1) M6 _ _ _ k_o0 w (lv_sub hl [1, 2, 3, 0] rfl) h
set_option maxHeartbeats 4000000 in
set_option maxRecDepth 100000 in
theorem c_X0_moveScene {E : EE} {l : Launch} {g : GG} {ad : Nat → Nat} (hg : gwf g) {o0 : Nat} {x1 : Int} {x2 : Int} {M : Mm} {Q : Mm → Prop} (k_o0 : gk g o0 = 0) (h : p_X0_moveScene g o0 x1 x2 M Q) : Ct E l yX0_moveScene wsX0_moveScene rmX0_moveScene g ad [.ref (ad o0), cI x1, cI x2] M (QV E g ad Q) := by
  refine ent (cc := cX0_moveScene) (maxL := 4) (ret := none) (own := RX0) (by decide +kernel) rfl rfl (Nat.le_of_ble_eq_true rfl) ?_
  intro p e s m below meth c ls X hr hlk K w hl
  have hl : lv_has ls 4 [(0, .ref (ad o0)), (1, cI x1), (2, cI x2)] := hl
  unfold p_X0_moveScene at h
  refine r_iconst X dX0_moveScene_0 ?_
  refine lv_istore_n (lv' := [(3, cI 0), (0, .ref (ad o0)), (1, cI x1), (2, cI x2)]) X.1 X.2.1 dX0_moveScene_1 rfl hl (by decide) rfl (fun ls hl => ?_)
  obtain ⟨n7, h⟩ := h
  exact w_X0_moveScene_L2 hg X K hr hlk n7 o0 x1 x2 0 M _ _ _ k_o0 w (lv_sub hl [1, 2, 3, 0] rfl) h
theorem dX0_timesIn_0 : decode cX0_timesIn 0 = .ok (.iconst 0, 1) := by decide +kernel
theorem dX0_timesIn_1 : decode cX0_timesIn 1 = .ok (.istore_n 3, 1) := by decide +kernel
theorem dX0_timesIn_2 : decode cX0_timesIn 2 = .ok (.iconst 0, 1) := by decide +kernel
theorem dX0_timesIn_3 : decode cX0_timesIn 3 = .ok (.istore 4, 2) := by decide +kernel
theorem dX0_timesIn_5 : decode cX0_timesIn 5 = .ok (.iload 4, 2) := by decide +kernel
theorem dX0_timesIn_7 : decode cX0_timesIn 7 = .ok (.aload_n 0, 1) := by decide +kernel
theorem dX0_timesIn_8 : decode cX0_timesIn 8 = .ok (.getfield 9, 3) := by decide +kernel
theorem dX0_timesIn_11 : decode cX0_timesIn 11 = .ok (.if_icmp .ge 22, 3) := by decide +kernel
theorem dX0_timesIn_14 : decode cX0_timesIn 14 = .ok (.aload_n 1, 1) := by decide +kernel
theorem dX0_timesIn_15 : decode cX0_timesIn 15 = .ok (.iload 4, 2) := by decide +kernel
theorem dX0_timesIn_17 : decode cX0_timesIn 17 = .ok (.invokevirtual 46, 3) := by decide +kernel
theorem dX0_timesIn_20 : decode cX0_timesIn 20 = .ok (.iload_n 2, 1) := by decide +kernel
theorem dX0_timesIn_21 : decode cX0_timesIn 21 = .ok (.if_icmp .ne 6, 3) := by decide +kernel
theorem dX0_timesIn_24 : decode cX0_timesIn 24 = .ok (.iinc 3 1, 3) := by decide +kernel
theorem dX0_timesIn_27 : decode cX0_timesIn 27 = .ok (.iinc 4 1, 3) := by decide +kernel
theorem dX0_timesIn_30 : decode cX0_timesIn 30 = .ok (.goto (-25), 3) := by decide +kernel
theorem dX0_timesIn_33 : decode cX0_timesIn 33 = .ok (.iload_n 3, 1) := by decide +kernel
theorem dX0_timesIn_34 : decode cX0_timesIn 34 = .ok (.ireturn, 1) := by decide +kernel
set_option maxRecDepth 20000 in
theorem ggX0_timesIn_X4_get : GoodIn wsX0_timesIn wsX4_get := goodIn_r _ [6, 7, 14] (by decide +kernel) (by decide +kernel)
set_option maxRecDepth 20000 in
theorem gX0_timesIn_X4_get : GoodIn wsX0_timesIn (wsV RX0 46 RX4 yX4_get wsX4_get) := goodIn_app (goodIn_of _ (by decide +kernel)) ggX0_timesIn_X4_get
theorem iX0_timesIn_0 : ∀ w ∈ u_ws RX0 TX0 6, w ∈ wsX0_timesIn := fun w h => List.mem_cons_of_mem _ (List.mem_append_left _ (List.mem_append_right _ (h)))
set_option maxHeartbeats 4000000 in
set_option maxRecDepth 100000 in
theorem w_X0_timesIn_L5 {p : Program} {l : Launch} {e : Env} {s : State} {m : MethodId} {args : Array Value} {below : List Frame} {meth : Method} {c : Code} {E : EE} {g : GG} {ad : Nat → Nat} (hg : gwf g) (X : CallFix p m c cX0_timesIn 5 s args wsX0_timesIn RX0) (K : Kn E s) (hr : meth.sig.returnType = (some .int)) (hlk : meth.locks = false) {Q : Int → Mm → Prop} : ∀ (n : Nat) (o0 : Nat) (o1 : Nat) (x2 : Int) (x3 : Int) (x4 : Int) (M : Mm) (H : Heap) (locs : List Loc) (ls : Array Slot), gk g o0 = 0 → gk g o1 = 4 → Rw E g ad M s.heap H locs → lv_has ls 5 [(0, .ref (ad o0)), (1, .ref (ad o1)), (2, cI x2), (3, cI x3), (4, cI x4)] → p_X0_timesIn_L5 g n o0 o1 x2 x3 x4 M Q → W p l e rmX0_timesIn s m args below meth c H locs 0 0 (MQ below (QI E g ad Q) args s 0 0 (Rg g ad)) (F0 m 5 ls []) := by
  intro n
  induction n with
  | zero =>
    intro o0 o1 x2 x3 x4 M H locs ls k_o0 k_o1 w hl h
    exact absurd h (by unfold p_X0_timesIn_L5; exact id)
  | succ n ih =>
    intro o0 o1 x2 x3 x4 M H locs ls k_o0 k_o1 w hl h
    unfold p_X0_timesIn_L5 at h
    refine lv_iload X.1 X.2.1 dX0_timesIn_5 (lv_at hl 4 rfl) ?_
    refine lv_aload_n X.1 X.2.1 dX0_timesIn_7 rfl (lv_at hl 0 rfl) ?_
    refine r_geti (N := 6) (T := TX0) (kz := 5) X K w iX0_timesIn_0 k_o0 rfl (by decide) 5 (by decide) rfl rfl rfl (List.mem_of_getElem? (i := 1) rfl) dX0_timesIn_8 ?_
    obtain ⟨i0, i1, h1, h2⟩ := h
    refine r_icmp_ge (tgt := 33) X i0 i1 dX0_timesIn_11 (by decide) (fun cc => ?_) (fun cc => ?_)
    · have h := h1 cc
      refine lv_iload_n X.1 X.2.1 dX0_timesIn_33 rfl (lv_at hl 3 rfl) ?_
      exact r_ireturn X hr hlk K w h dX0_timesIn_34
    · have h := h2 cc
      refine lv_aload_n X.1 X.2.1 dX0_timesIn_14 rfl (lv_at hl 1 rfl) ?_
      refine lv_iload X.1 X.2.1 dX0_timesIn_15 (lv_at hl 4 rfl) ?_
      refine q_i (x_V (As := [cI x4]) (rest := []) X K w (c_X4_get hg k_o1 h) (cwV 1 X.2.2.2.2 gX0_timesIn_X4_get rfl rfl rfl (by decide +kernel) ⟨Nat.le_of_ble_eq_true rfl, Nat.le_of_ble_eq_true rfl⟩) k_o1 (by decide) rfl rfl hl rfl (Nat.le_of_ble_eq_true rfl) dX0_timesIn_17 ⟨Nat.le_of_ble_eq_true rfl, Nat.le_of_ble_eq_true rfl⟩) w (fun r2 M1 H locs h w => ?_)
      refine lv_iload_n X.1 X.2.1 dX0_timesIn_20 rfl (lv_at hl 2 rfl) ?_
      obtain ⟨i0, i1, h1, h2⟩ := h
      refine r_icmp_ne (tgt := 27) X i0 i1 dX0_timesIn_21 (by decide) (fun cc => ?_) (fun cc => ?_)
      · have h := h1 cc
        refine r_iinc (lv' := [(4, cI (x4 + 1)), (0, .ref (ad o0)), (1, .ref (ad o1)), (2, cI x2), (3, cI x3)]) X hl (k := 4) rfl (by decide) dX0_timesIn_27 rfl (fun ls hl => ?_)
        refine lv_goto (tgt := 5) X.1 X.2.1 dX0_timesIn_30 (by decide) ?_
        exact ih o0 o1 x2 x3 (x4 + 1) M1 _ _ _ k_o0 k_o1 w (lv_sub hl [1, 2, 3, 4, 0] rfl) h
      · have h := h2 cc
        refine r_iinc (lv' := [(3, cI (x3 + 1)), (0, .ref (ad o0)), (1, .ref (ad o1)), (2, cI x2), (4, cI x4)]) X hl (k := 3) rfl (by decide) dX0_timesIn_24 rfl (fun ls hl => ?_)
        refine r_iinc (lv' := [(4, cI (x4 + 1)), (3, cI (x3 + 1)), (0, .ref (ad o0)), (1, .ref (ad o1)), (2, cI x2)]) X hl (k := 4) rfl (by decide) dX0_timesIn_27 rfl (fun ls hl => ?_)
        refine lv_goto (tgt := 5) X.1 X.2.1 dX0_timesIn_30 (by decide) ?_
        exact ih o0 o1 x2 (x3 + 1) (x4 + 1) M1 _ _ _ k_o0 k_o1 w (lv_sub hl [2, 3, 4, 1, 0] rfl) h
set_option maxHeartbeats 4000000 in
set_option maxRecDepth 100000 in
theorem c_X0_timesIn {E : EE} {l : Launch} {g : GG} {ad : Nat → Nat} (hg : gwf g) {o0 : Nat} {o1 : Nat} {x2 : Int} {M : Mm} {Q : Int → Mm → Prop} (k_o0 : gk g o0 = 0) (k_o1 : gk g o1 = 4) (h : p_X0_timesIn g o0 o1 x2 M Q) : Ct E l yX0_timesIn wsX0_timesIn rmX0_timesIn g ad [.ref (ad o0), .ref (ad o1), cI x2] M (QI E g ad Q) := by
  refine ent (cc := cX0_timesIn) (maxL := 5) (ret := (some .int)) (own := RX0) (by decide +kernel) rfl rfl (Nat.le_of_ble_eq_true rfl) ?_
  intro p e s m below meth c ls X hr hlk K w hl
  have hl : lv_has ls 5 [(0, .ref (ad o0)), (1, .ref (ad o1)), (2, cI x2)] := hl
  unfold p_X0_timesIn at h
  refine r_iconst X dX0_timesIn_0 ?_
  refine lv_istore_n (lv' := [(3, cI 0), (0, .ref (ad o0)), (1, .ref (ad o1)), (2, cI x2)]) X.1 X.2.1 dX0_timesIn_1 rfl hl (by decide) rfl (fun ls hl => ?_)
  refine r_iconst X dX0_timesIn_2 ?_
  refine lv_istore (lv' := [(4, cI 0), (3, cI 0), (0, .ref (ad o0)), (1, .ref (ad o1)), (2, cI x2)]) X.1 X.2.1 dX0_timesIn_3 hl (by decide) rfl (fun ls hl => ?_)
  obtain ⟨n3, h⟩ := h
  exact w_X0_timesIn_L5 hg X K hr hlk n3 o0 o1 x2 0 0 M _ _ _ k_o0 k_o1 w (lv_sub hl [2, 3, 4, 1, 0] rfl) h
theorem dX0_sizeOfScene_0 : decode cX0_sizeOfScene 0 = .ok (.aload_n 0, 1) := by decide +kernel
theorem dX0_sizeOfScene_1 : decode cX0_sizeOfScene 1 = .ok (.aload_n 0, 1) := by decide +kernel
theorem dX0_sizeOfScene_2 : decode cX0_sizeOfScene 2 = .ok (.getfield 27, 3) := by decide +kernel
theorem dX0_sizeOfScene_5 : decode cX0_sizeOfScene 5 = .ok (.iload_n 1, 1) := by decide +kernel
theorem dX0_sizeOfScene_6 : decode cX0_sizeOfScene 6 = .ok (.invokevirtual 70, 3) := by decide +kernel
theorem dX0_sizeOfScene_9 : decode cX0_sizeOfScene 9 = .ok (.ireturn, 1) := by decide +kernel
set_option maxRecDepth 20000 in
theorem ggX0_sizeOfScene_X0_timesIn : GoodIn wsX0_sizeOfScene wsX0_timesIn := goodIn_r _ [6, 7, 8, 9, 10, 11, 12, 13, 14, 15, 16, 17, 18, 19, 20] (by decide +kernel) (by decide +kernel)
set_option maxRecDepth 20000 in
theorem gX0_sizeOfScene_X0_timesIn : GoodIn wsX0_sizeOfScene (wsV RX0 70 RX0 yX0_timesIn wsX0_timesIn) := goodIn_app (goodIn_of _ (by decide +kernel)) ggX0_sizeOfScene_X0_timesIn
theorem iX0_sizeOfScene_0 : ∀ w ∈ u_ws RX0 TX0 6, w ∈ wsX0_sizeOfScene := fun w h => List.mem_cons_of_mem _ (List.mem_append_left _ (List.mem_append_right _ (h)))
set_option maxHeartbeats 4000000 in
set_option maxRecDepth 100000 in
theorem c_X0_sizeOfScene {E : EE} {l : Launch} {g : GG} {ad : Nat → Nat} (hg : gwf g) {o0 : Nat} {x1 : Int} {M : Mm} {Q : Int → Mm → Prop} (k_o0 : gk g o0 = 0) (h : p_X0_sizeOfScene g o0 x1 M Q) : Ct E l yX0_sizeOfScene wsX0_sizeOfScene rmX0_sizeOfScene g ad [.ref (ad o0), cI x1] M (QI E g ad Q) := by
  refine ent (cc := cX0_sizeOfScene) (maxL := 2) (ret := (some .int)) (own := RX0) (by decide +kernel) rfl rfl (Nat.le_of_ble_eq_true rfl) ?_
  intro p e s m below meth c ls X hr hlk K w hl
  have hl : lv_has ls 2 [(0, .ref (ad o0)), (1, cI x1)] := hl
  unfold p_X0_sizeOfScene at h
  refine lv_aload_n X.1 X.2.1 dX0_sizeOfScene_0 rfl (lv_at hl 0 rfl) ?_
  refine lv_aload_n X.1 X.2.1 dX0_sizeOfScene_1 rfl (lv_at hl 0 rfl) ?_
  refine r_getr (N := 6) (T := TX0) X K w iX0_sizeOfScene_0 k_o0 rfl (by decide) 2 (by decide) rfl rfl (List.mem_of_getElem? (i := 1) rfl) dX0_sizeOfScene_2 ?_
  have k1 : gk g (o0 + 3) = 4 := gch hg k_o0 (by decide) 2 (by decide) rfl rfl
  refine lv_iload_n X.1 X.2.1 dX0_sizeOfScene_5 rfl (lv_at hl 1 rfl) ?_
  refine q_i (x_V (As := [.ref (ad (o0 + 3)), cI x1]) (rest := []) X K w (c_X0_timesIn hg k_o0 k1 h) (cwV 2 X.2.2.2.2 gX0_sizeOfScene_X0_timesIn rfl rfl rfl (by decide +kernel) ⟨Nat.le_of_ble_eq_true rfl, Nat.le_of_ble_eq_true rfl⟩) k_o0 (by decide) rfl rfl hl rfl (Nat.le_of_ble_eq_true rfl) dX0_sizeOfScene_6 ⟨Nat.le_of_ble_eq_true rfl, Nat.le_of_ble_eq_true rfl⟩) w (fun r3 M2 H locs h w => ?_)
  exact r_ireturn X hr hlk K w h dX0_sizeOfScene_9
theorem dX0_sizeOfSound_0 : decode cX0_sizeOfSound 0 = .ok (.aload_n 0, 1) := by decide +kernel
theorem dX0_sizeOfSound_1 : decode cX0_sizeOfSound 1 = .ok (.aload_n 0, 1) := by decide +kernel
theorem dX0_sizeOfSound_2 : decode cX0_sizeOfSound 2 = .ok (.getfield 30, 3) := by decide +kernel
theorem dX0_sizeOfSound_5 : decode cX0_sizeOfSound 5 = .ok (.iload_n 1, 1) := by decide +kernel
theorem dX0_sizeOfSound_6 : decode cX0_sizeOfSound 6 = .ok (.invokevirtual 70, 3) := by decide +kernel
theorem dX0_sizeOfSound_9 : decode cX0_sizeOfSound 9 = .ok (.ireturn, 1) := by decide +kernel
set_option maxRecDepth 20000 in
theorem ggX0_sizeOfSound_X0_timesIn : GoodIn wsX0_sizeOfSound wsX0_timesIn := goodIn_r _ [6, 7, 8, 9, 10, 11, 12, 13, 14, 15, 16, 17, 18, 19, 20] (by decide +kernel) (by decide +kernel)
set_option maxRecDepth 20000 in
theorem gX0_sizeOfSound_X0_timesIn : GoodIn wsX0_sizeOfSound (wsV RX0 70 RX0 yX0_timesIn wsX0_timesIn) := goodIn_app (goodIn_of _ (by decide +kernel)) ggX0_sizeOfSound_X0_timesIn
theorem iX0_sizeOfSound_0 : ∀ w ∈ u_ws RX0 TX0 6, w ∈ wsX0_sizeOfSound := fun w h => List.mem_cons_of_mem _ (List.mem_append_left _ (List.mem_append_right _ (h)))
set_option maxHeartbeats 4000000 in
set_option maxRecDepth 100000 in
theorem c_X0_sizeOfSound {E : EE} {l : Launch} {g : GG} {ad : Nat → Nat} (hg : gwf g) {o0 : Nat} {x1 : Int} {M : Mm} {Q : Int → Mm → Prop} (k_o0 : gk g o0 = 0) (h : p_X0_sizeOfSound g o0 x1 M Q) : Ct E l yX0_sizeOfSound wsX0_sizeOfSound rmX0_sizeOfSound g ad [.ref (ad o0), cI x1] M (QI E g ad Q) := by
  refine ent (cc := cX0_sizeOfSound) (maxL := 2) (ret := (some .int)) (own := RX0) (by decide +kernel) rfl rfl (Nat.le_of_ble_eq_true rfl) ?_
  intro p e s m below meth c ls X hr hlk K w hl
  have hl : lv_has ls 2 [(0, .ref (ad o0)), (1, cI x1)] := hl
  unfold p_X0_sizeOfSound at h
  refine lv_aload_n X.1 X.2.1 dX0_sizeOfSound_0 rfl (lv_at hl 0 rfl) ?_
  refine lv_aload_n X.1 X.2.1 dX0_sizeOfSound_1 rfl (lv_at hl 0 rfl) ?_
  refine r_getr (N := 6) (T := TX0) X K w iX0_sizeOfSound_0 k_o0 rfl (by decide) 3 (by decide) rfl rfl (List.mem_of_getElem? (i := 1) rfl) dX0_sizeOfSound_2 ?_
  have k1 : gk g (o0 + 5) = 4 := gch hg k_o0 (by decide) 3 (by decide) rfl rfl
  refine lv_iload_n X.1 X.2.1 dX0_sizeOfSound_5 rfl (lv_at hl 1 rfl) ?_
  refine q_i (x_V (As := [.ref (ad (o0 + 5)), cI x1]) (rest := []) X K w (c_X0_timesIn hg k_o0 k1 h) (cwV 2 X.2.2.2.2 gX0_sizeOfSound_X0_timesIn rfl rfl rfl (by decide +kernel) ⟨Nat.le_of_ble_eq_true rfl, Nat.le_of_ble_eq_true rfl⟩) k_o0 (by decide) rfl rfl hl rfl (Nat.le_of_ble_eq_true rfl) dX0_sizeOfSound_6 ⟨Nat.le_of_ble_eq_true rfl, Nat.le_of_ble_eq_true rfl⟩) w (fun r3 M2 H locs h w => ?_)
  exact r_ireturn X hr hlk K w h dX0_sizeOfSound_9
theorem dX0_firstTick_0 : decode cX0_firstTick 0 = .ok (.iconst 0, 1) := by decide +kernel
theorem dX0_firstTick_1 : decode cX0_firstTick 1 = .ok (.istore_n 2, 1) := by decide +kernel
theorem dX0_firstTick_2 : decode cX0_firstTick 2 = .ok (.iload_n 2, 1) := by decide +kernel
theorem dX0_firstTick_3 : decode cX0_firstTick 3 = .ok (.aload_n 0, 1) := by decide +kernel
theorem dX0_firstTick_4 : decode cX0_firstTick 4 = .ok (.getfield 9, 3) := by decide +kernel
theorem dX0_firstTick_7 : decode cX0_firstTick 7 = .ok (.if_icmp .ge 30, 3) := by decide +kernel
theorem dX0_firstTick_10 : decode cX0_firstTick 10 = .ok (.aload_n 0, 1) := by decide +kernel
theorem dX0_firstTick_11 : decode cX0_firstTick 11 = .ok (.getfield 27, 3) := by decide +kernel
theorem dX0_firstTick_14 : decode cX0_firstTick 14 = .ok (.iload_n 2, 1) := by decide +kernel
theorem dX0_firstTick_15 : decode cX0_firstTick 15 = .ok (.invokevirtual 46, 3) := by decide +kernel
theorem dX0_firstTick_18 : decode cX0_firstTick 18 = .ok (.iload_n 1, 1) := by decide +kernel
theorem dX0_firstTick_19 : decode cX0_firstTick 19 = .ok (.if_icmp .ne 12, 3) := by decide +kernel
theorem dX0_firstTick_22 : decode cX0_firstTick 22 = .ok (.aload_n 0, 1) := by decide +kernel
theorem dX0_firstTick_23 : decode cX0_firstTick 23 = .ok (.getfield 23, 3) := by decide +kernel
theorem dX0_firstTick_26 : decode cX0_firstTick 26 = .ok (.iload_n 2, 1) := by decide +kernel
theorem dX0_firstTick_27 : decode cX0_firstTick 27 = .ok (.invokevirtual 46, 3) := by decide +kernel
theorem dX0_firstTick_30 : decode cX0_firstTick 30 = .ok (.ireturn, 1) := by decide +kernel
theorem dX0_firstTick_31 : decode cX0_firstTick 31 = .ok (.iinc 2 1, 3) := by decide +kernel
theorem dX0_firstTick_34 : decode cX0_firstTick 34 = .ok (.goto (-32), 3) := by decide +kernel
theorem dX0_firstTick_37 : decode cX0_firstTick 37 = .ok (.bipush (-5), 2) := by decide +kernel
theorem dX0_firstTick_39 : decode cX0_firstTick 39 = .ok (.ireturn, 1) := by decide +kernel
set_option maxRecDepth 20000 in
theorem ggX0_firstTick_X4_get : GoodIn wsX0_firstTick wsX4_get := goodIn_r _ [8, 9, 16] (by decide +kernel) (by decide +kernel)
set_option maxRecDepth 20000 in
theorem gX0_firstTick_X4_get : GoodIn wsX0_firstTick (wsV RX0 46 RX4 yX4_get wsX4_get) := goodIn_app (goodIn_of _ (by decide +kernel)) ggX0_firstTick_X4_get
theorem iX0_firstTick_0 : ∀ w ∈ u_ws RX0 TX0 6, w ∈ wsX0_firstTick := fun w h => List.mem_cons_of_mem _ (List.mem_append_left _ (List.mem_append_right _ (h)))
set_option maxHeartbeats 4000000 in
set_option maxRecDepth 100000 in
theorem w_X0_firstTick_L2 {p : Program} {l : Launch} {e : Env} {s : State} {m : MethodId} {args : Array Value} {below : List Frame} {meth : Method} {c : Code} {E : EE} {g : GG} {ad : Nat → Nat} (hg : gwf g) (X : CallFix p m c cX0_firstTick 3 s args wsX0_firstTick RX0) (K : Kn E s) (hr : meth.sig.returnType = (some .int)) (hlk : meth.locks = false) {Q : Int → Mm → Prop} : ∀ (n : Nat) (o0 : Nat) (x1 : Int) (x2 : Int) (M : Mm) (H : Heap) (locs : List Loc) (ls : Array Slot), gk g o0 = 0 → Rw E g ad M s.heap H locs → lv_has ls 3 [(0, .ref (ad o0)), (1, cI x1), (2, cI x2)] → p_X0_firstTick_L2 g n o0 x1 x2 M Q → W p l e rmX0_firstTick s m args below meth c H locs 0 0 (MQ below (QI E g ad Q) args s 0 0 (Rg g ad)) (F0 m 2 ls []) := by
  intro n
  induction n with
  | zero =>
    intro o0 x1 x2 M H locs ls k_o0 w hl h
    exact absurd h (by unfold p_X0_firstTick_L2; exact id)
  | succ n ih =>
    intro o0 x1 x2 M H locs ls k_o0 w hl h
    unfold p_X0_firstTick_L2 at h
    refine lv_iload_n X.1 X.2.1 dX0_firstTick_2 rfl (lv_at hl 2 rfl) ?_
    refine lv_aload_n X.1 X.2.1 dX0_firstTick_3 rfl (lv_at hl 0 rfl) ?_
    refine r_geti (N := 6) (T := TX0) (kz := 5) X K w iX0_firstTick_0 k_o0 rfl (by decide) 5 (by decide) rfl rfl rfl (List.mem_of_getElem? (i := 1) rfl) dX0_firstTick_4 ?_
    obtain ⟨i0, i1, h1, h2⟩ := h
    refine r_icmp_ge (tgt := 37) X i0 i1 dX0_firstTick_7 (by decide) (fun cc => ?_) (fun cc => ?_)
    · have h := h1 cc
      refine r_bipush X dX0_firstTick_37 (by decide +kernel) ?_
      exact r_ireturn X hr hlk K w h dX0_firstTick_39
    · have h := h2 cc
      refine lv_aload_n X.1 X.2.1 dX0_firstTick_10 rfl (lv_at hl 0 rfl) ?_
      refine r_getr (N := 6) (T := TX0) X K w iX0_firstTick_0 k_o0 rfl (by decide) 2 (by decide) rfl rfl (List.mem_of_getElem? (i := 2) rfl) dX0_firstTick_11 ?_
      have k1 : gk g (o0 + 3) = 4 := gch hg k_o0 (by decide) 2 (by decide) rfl rfl
      refine lv_iload_n X.1 X.2.1 dX0_firstTick_14 rfl (lv_at hl 2 rfl) ?_
      refine q_i (x_V (As := [cI x2]) (rest := []) X K w (c_X4_get hg k1 h) (cwV 1 X.2.2.2.2 gX0_firstTick_X4_get rfl rfl rfl (by decide +kernel) ⟨Nat.le_of_ble_eq_true rfl, Nat.le_of_ble_eq_true rfl⟩) k1 (by decide) rfl rfl hl rfl (Nat.le_of_ble_eq_true rfl) dX0_firstTick_15 ⟨Nat.le_of_ble_eq_true rfl, Nat.le_of_ble_eq_true rfl⟩) w (fun r3 M2 H locs h w => ?_)
      refine lv_iload_n X.1 X.2.1 dX0_firstTick_18 rfl (lv_at hl 1 rfl) ?_
      obtain ⟨i0, i1, h1, h2⟩ := h
      refine r_icmp_ne (tgt := 31) X i0 i1 dX0_firstTick_19 (by decide) (fun cc => ?_) (fun cc => ?_)
      · have h := h1 cc
        refine r_iinc (lv' := [(2, cI (x2 + 1)), (0, .ref (ad o0)), (1, cI x1)]) X hl (k := 2) rfl (by decide) dX0_firstTick_31 rfl (fun ls hl => ?_)
        refine lv_goto (tgt := 2) X.1 X.2.1 dX0_firstTick_34 (by decide) ?_
        exact ih o0 x1 (x2 + 1) M2 _ _ _ k_o0 w (lv_sub hl [1, 2, 0] rfl) h
      · have h := h2 cc
        refine lv_aload_n X.1 X.2.1 dX0_firstTick_22 rfl (lv_at hl 0 rfl) ?_
        refine r_getr (N := 6) (T := TX0) X K w iX0_firstTick_0 k_o0 rfl (by decide) 1 (by decide) rfl rfl (List.mem_of_getElem? (i := 3) rfl) dX0_firstTick_23 ?_
        have k4 : gk g (o0 + 1) = 4 := gch hg k_o0 (by decide) 1 (by decide) rfl rfl
        refine lv_iload_n X.1 X.2.1 dX0_firstTick_26 rfl (lv_at hl 2 rfl) ?_
        refine q_i (x_V (As := [cI x2]) (rest := []) X K w (c_X4_get hg k4 h) (cwV 1 X.2.2.2.2 gX0_firstTick_X4_get rfl rfl rfl (by decide +kernel) ⟨Nat.le_of_ble_eq_true rfl, Nat.le_of_ble_eq_true rfl⟩) k4 (by decide) rfl rfl hl rfl (Nat.le_of_ble_eq_true rfl) dX0_firstTick_27 ⟨Nat.le_of_ble_eq_true rfl, Nat.le_of_ble_eq_true rfl⟩) w (fun r6 M5 H locs h w => ?_)
        exact r_ireturn X hr hlk K w h dX0_firstTick_30
set_option maxHeartbeats 4000000 in
set_option maxRecDepth 100000 in
theorem c_X0_firstTick {E : EE} {l : Launch} {g : GG} {ad : Nat → Nat} (hg : gwf g) {o0 : Nat} {x1 : Int} {M : Mm} {Q : Int → Mm → Prop} (k_o0 : gk g o0 = 0) (h : p_X0_firstTick g o0 x1 M Q) : Ct E l yX0_firstTick wsX0_firstTick rmX0_firstTick g ad [.ref (ad o0), cI x1] M (QI E g ad Q) := by
  refine ent (cc := cX0_firstTick) (maxL := 3) (ret := (some .int)) (own := RX0) (by decide +kernel) rfl rfl (Nat.le_of_ble_eq_true rfl) ?_
  intro p e s m below meth c ls X hr hlk K w hl
  have hl : lv_has ls 3 [(0, .ref (ad o0)), (1, cI x1)] := hl
  unfold p_X0_firstTick at h
  refine r_iconst X dX0_firstTick_0 ?_
  refine lv_istore_n (lv' := [(2, cI 0), (0, .ref (ad o0)), (1, cI x1)]) X.1 X.2.1 dX0_firstTick_1 rfl hl (by decide) rfl (fun ls hl => ?_)
  obtain ⟨n7, h⟩ := h
  exact w_X0_firstTick_L2 hg X K hr hlk n7 o0 x1 0 M _ _ _ k_o0 w (lv_sub hl [1, 2, 0] rfl) h
theorem dX0_greatestEnd_0 : decode cX0_greatestEnd 0 = .ok (.bipush (-5), 2) := by decide +kernel
theorem dX0_greatestEnd_2 : decode cX0_greatestEnd 2 = .ok (.istore_n 2, 1) := by decide +kernel
theorem dX0_greatestEnd_3 : decode cX0_greatestEnd 3 = .ok (.iconst 0, 1) := by decide +kernel
theorem dX0_greatestEnd_4 : decode cX0_greatestEnd 4 = .ok (.istore_n 3, 1) := by decide +kernel
theorem dX0_greatestEnd_5 : decode cX0_greatestEnd 5 = .ok (.iload_n 3, 1) := by decide +kernel
theorem dX0_greatestEnd_6 : decode cX0_greatestEnd 6 = .ok (.aload_n 0, 1) := by decide +kernel
theorem dX0_greatestEnd_7 : decode cX0_greatestEnd 7 = .ok (.getfield 9, 3) := by decide +kernel
theorem dX0_greatestEnd_10 : decode cX0_greatestEnd 10 = .ok (.if_icmp .ge 31, 3) := by decide +kernel
theorem dX0_greatestEnd_13 : decode cX0_greatestEnd 13 = .ok (.aload_n 0, 1) := by decide +kernel
theorem dX0_greatestEnd_14 : decode cX0_greatestEnd 14 = .ok (.getfield 27, 3) := by decide +kernel
theorem dX0_greatestEnd_17 : decode cX0_greatestEnd 17 = .ok (.iload_n 3, 1) := by decide +kernel
theorem dX0_greatestEnd_18 : decode cX0_greatestEnd 18 = .ok (.invokevirtual 46, 3) := by decide +kernel
theorem dX0_greatestEnd_21 : decode cX0_greatestEnd 21 = .ok (.iload_n 1, 1) := by decide +kernel
theorem dX0_greatestEnd_22 : decode cX0_greatestEnd 22 = .ok (.if_icmp .ne 13, 3) := by decide +kernel
theorem dX0_greatestEnd_25 : decode cX0_greatestEnd 25 = .ok (.iload_n 2, 1) := by decide +kernel
theorem dX0_greatestEnd_26 : decode cX0_greatestEnd 26 = .ok (.aload_n 0, 1) := by decide +kernel
theorem dX0_greatestEnd_27 : decode cX0_greatestEnd 27 = .ok (.iload_n 3, 1) := by decide +kernel
theorem dX0_greatestEnd_28 : decode cX0_greatestEnd 28 = .ok (.invokevirtual 74, 3) := by decide +kernel
theorem dX0_greatestEnd_31 : decode cX0_greatestEnd 31 = .ok (.invokestatic 77, 3) := by decide +kernel
theorem dX0_greatestEnd_34 : decode cX0_greatestEnd 34 = .ok (.istore_n 2, 1) := by decide +kernel
theorem dX0_greatestEnd_35 : decode cX0_greatestEnd 35 = .ok (.iinc 3 1, 3) := by decide +kernel
theorem dX0_greatestEnd_38 : decode cX0_greatestEnd 38 = .ok (.goto (-33), 3) := by decide +kernel
theorem dX0_greatestEnd_41 : decode cX0_greatestEnd 41 = .ok (.iload_n 2, 1) := by decide +kernel
theorem dX0_greatestEnd_42 : decode cX0_greatestEnd 42 = .ok (.ireturn, 1) := by decide +kernel
set_option maxRecDepth 20000 in
theorem ggX0_greatestEnd_X0_endOf : GoodIn wsX0_greatestEnd wsX0_endOf := goodIn_r _ [17, 18, 19, 7, 8, 9, 10, 11, 12, 20, 21, 22, 23, 24, 25, 26] (by decide +kernel) (by decide +kernel)
set_option maxRecDepth 20000 in
theorem gX0_greatestEnd_X0_endOf : GoodIn wsX0_greatestEnd (wsV RX0 74 RX0 yX0_endOf wsX0_endOf) := goodIn_app (goodIn_of _ (by decide +kernel)) ggX0_greatestEnd_X0_endOf
set_option maxRecDepth 20000 in
theorem ggX0_greatestEnd_X4_get : GoodIn wsX0_greatestEnd wsX4_get := goodIn_r _ [11, 12, 26] (by decide +kernel) (by decide +kernel)
set_option maxRecDepth 20000 in
theorem gX0_greatestEnd_X4_get : GoodIn wsX0_greatestEnd (wsV RX0 46 RX4 yX4_get wsX4_get) := goodIn_app (goodIn_of _ (by decide +kernel)) ggX0_greatestEnd_X4_get
theorem iX0_greatestEnd_0 : ∀ w ∈ u_ws RX0 TX0 6, w ∈ wsX0_greatestEnd := fun w h => List.mem_cons_of_mem _ (List.mem_append_left _ (List.mem_append_right _ (h)))
set_option maxHeartbeats 4000000 in
set_option maxRecDepth 100000 in
theorem w_X0_greatestEnd_L5 {p : Program} {l : Launch} {e : Env} {s : State} {m : MethodId} {args : Array Value} {below : List Frame} {meth : Method} {c : Code} {E : EE} {g : GG} {ad : Nat → Nat} (hg : gwf g) (X : CallFix p m c cX0_greatestEnd 4 s args wsX0_greatestEnd RX0) (K : Kn E s) (hr : meth.sig.returnType = (some .int)) (hlk : meth.locks = false) {Q : Int → Mm → Prop} : ∀ (n : Nat) (o0 : Nat) (x1 : Int) (x2 : Int) (x3 : Int) (M : Mm) (H : Heap) (locs : List Loc) (ls : Array Slot), gk g o0 = 0 → Rw E g ad M s.heap H locs → lv_has ls 4 [(0, .ref (ad o0)), (1, cI x1), (2, cI x2), (3, cI x3)] → p_X0_greatestEnd_L5 g n o0 x1 x2 x3 M Q → W p l e rmX0_greatestEnd s m args below meth c H locs 0 0 (MQ below (QI E g ad Q) args s 0 0 (Rg g ad)) (F0 m 5 ls []) := by
  intro n
  induction n with
  | zero =>
    intro o0 x1 x2 x3 M H locs ls k_o0 w hl h
    exact absurd h (by unfold p_X0_greatestEnd_L5; exact id)
  | succ n ih =>
    intro o0 x1 x2 x3 M H locs ls k_o0 w hl h
    unfold p_X0_greatestEnd_L5 at h
    refine lv_iload_n X.1 X.2.1 dX0_greatestEnd_5 rfl (lv_at hl 3 rfl) ?_
    refine lv_aload_n X.1 X.2.1 dX0_greatestEnd_6 rfl (lv_at hl 0 rfl) ?_
    refine r_geti (N := 6) (T := TX0) (kz := 5) X K w iX0_greatestEnd_0 k_o0 rfl (by decide) 5 (by decide) rfl rfl rfl (List.mem_of_getElem? (i := 1) rfl) dX0_greatestEnd_7 ?_
    obtain ⟨i0, i1, h1, h2⟩ := h
    refine r_icmp_ge (tgt := 41) X i0 i1 dX0_greatestEnd_10 (by decide) (fun cc => ?_) (fun cc => ?_)
    · have h := h1 cc
      refine lv_iload_n X.1 X.2.1 dX0_greatestEnd_41 rfl (lv_at hl 2 rfl) ?_
      exact r_ireturn X hr hlk K w h dX0_greatestEnd_42
    · have h := h2 cc
      refine lv_aload_n X.1 X.2.1 dX0_greatestEnd_13 rfl (lv_at hl 0 rfl) ?_
      refine r_getr (N := 6) (T := TX0) X K w iX0_greatestEnd_0 k_o0 rfl (by decide) 2 (by decide) rfl rfl (List.mem_of_getElem? (i := 2) rfl) dX0_greatestEnd_14 ?_
      have k1 : gk g (o0 + 3) = 4 := gch hg k_o0 (by decide) 2 (by decide) rfl rfl
      refine lv_iload_n X.1 X.2.1 dX0_greatestEnd_17 rfl (lv_at hl 3 rfl) ?_
      refine q_i (x_V (As := [cI x3]) (rest := []) X K w (c_X4_get hg k1 h) (cwV 1 X.2.2.2.2 gX0_greatestEnd_X4_get rfl rfl rfl (by decide +kernel) ⟨Nat.le_of_ble_eq_true rfl, Nat.le_of_ble_eq_true rfl⟩) k1 (by decide) rfl rfl hl rfl (Nat.le_of_ble_eq_true rfl) dX0_greatestEnd_18 ⟨Nat.le_of_ble_eq_true rfl, Nat.le_of_ble_eq_true rfl⟩) w (fun r3 M2 H locs h w => ?_)
      refine lv_iload_n X.1 X.2.1 dX0_greatestEnd_21 rfl (lv_at hl 1 rfl) ?_
      obtain ⟨i0, i1, h1, h2⟩ := h
      refine r_icmp_ne (tgt := 35) X i0 i1 dX0_greatestEnd_22 (by decide) (fun cc => ?_) (fun cc => ?_)
      · have h := h1 cc
        refine r_iinc (lv' := [(3, cI (x3 + 1)), (0, .ref (ad o0)), (1, cI x1), (2, cI x2)]) X hl (k := 3) rfl (by decide) dX0_greatestEnd_35 rfl (fun ls hl => ?_)
        refine lv_goto (tgt := 5) X.1 X.2.1 dX0_greatestEnd_38 (by decide) ?_
        exact ih o0 x1 x2 (x3 + 1) M2 _ _ _ k_o0 w (lv_sub hl [1, 2, 3, 0] rfl) h
      · have h := h2 cc
        refine lv_iload_n X.1 X.2.1 dX0_greatestEnd_25 rfl (lv_at hl 2 rfl) ?_
        refine lv_aload_n X.1 X.2.1 dX0_greatestEnd_26 rfl (lv_at hl 0 rfl) ?_
        refine lv_iload_n X.1 X.2.1 dX0_greatestEnd_27 rfl (lv_at hl 3 rfl) ?_
        refine q_i (x_V (As := [cI x3]) (rest := [cI x2]) X K w (c_X0_endOf hg k_o0 h) (cwV 1 X.2.2.2.2 gX0_greatestEnd_X0_endOf rfl rfl rfl (by decide +kernel) ⟨Nat.le_of_ble_eq_true rfl, Nat.le_of_ble_eq_true rfl⟩) k_o0 (by decide) rfl rfl hl rfl (Nat.le_of_ble_eq_true rfl) dX0_greatestEnd_28 ⟨Nat.le_of_ble_eq_true rfl, Nat.le_of_ble_eq_true rfl⟩) w (fun r5 M4 H locs h w => ?_)
        obtain ⟨i0, i1, h⟩ := h
        refine r_max X hl i0 i1 (List.mem_of_getElem? (i := 3) rfl) (List.mem_of_getElem? (i := 4) rfl) (List.mem_of_getElem? (i := 5) rfl) (List.mem_of_getElem? (i := 6) rfl) (by decide) (Nat.le_of_ble_eq_true rfl) ⟨by decide, by decide⟩ dX0_greatestEnd_31 ?_
        refine lv_istore_n (lv' := [(2, cI (max x2 r5)), (0, .ref (ad o0)), (1, cI x1), (3, cI x3)]) X.1 X.2.1 dX0_greatestEnd_34 rfl hl (by decide) rfl (fun ls hl => ?_)
        refine r_iinc (lv' := [(3, cI (x3 + 1)), (2, cI (max x2 r5)), (0, .ref (ad o0)), (1, cI x1)]) X hl (k := 3) rfl (by decide) dX0_greatestEnd_35 rfl (fun ls hl => ?_)
        refine lv_goto (tgt := 5) X.1 X.2.1 dX0_greatestEnd_38 (by decide) ?_
        exact ih o0 x1 (max x2 r5) (x3 + 1) M4 _ _ _ k_o0 w (lv_sub hl [2, 3, 1, 0] rfl) h
set_option maxHeartbeats 4000000 in
set_option maxRecDepth 100000 in
theorem c_X0_greatestEnd {E : EE} {l : Launch} {g : GG} {ad : Nat → Nat} (hg : gwf g) {o0 : Nat} {x1 : Int} {M : Mm} {Q : Int → Mm → Prop} (k_o0 : gk g o0 = 0) (h : p_X0_greatestEnd g o0 x1 M Q) : Ct E l yX0_greatestEnd wsX0_greatestEnd rmX0_greatestEnd g ad [.ref (ad o0), cI x1] M (QI E g ad Q) := by
  refine ent (cc := cX0_greatestEnd) (maxL := 4) (ret := (some .int)) (own := RX0) (by decide +kernel) rfl rfl (Nat.le_of_ble_eq_true rfl) ?_
  intro p e s m below meth c ls X hr hlk K w hl
  have hl : lv_has ls 4 [(0, .ref (ad o0)), (1, cI x1)] := hl
  unfold p_X0_greatestEnd at h
  refine r_bipush X dX0_greatestEnd_0 (by decide +kernel) ?_
  refine lv_istore_n (lv' := [(2, cI (-5)), (0, .ref (ad o0)), (1, cI x1)]) X.1 X.2.1 dX0_greatestEnd_2 rfl hl (by decide) rfl (fun ls hl => ?_)
  refine r_iconst X dX0_greatestEnd_3 ?_
  refine lv_istore_n (lv' := [(3, cI 0), (2, cI (-5)), (0, .ref (ad o0)), (1, cI x1)]) X.1 X.2.1 dX0_greatestEnd_4 rfl hl (by decide) rfl (fun ls hl => ?_)
  obtain ⟨n6, h⟩ := h
  exact w_X0_greatestEnd_L5 hg X K hr hlk n6 o0 x1 (-5) 0 M _ _ _ k_o0 w (lv_sub hl [2, 3, 1, 0] rfl) h
theorem dX7_isBelow_0 : decode cX7_isBelow 0 = .ok (.iload_n 0, 1) := by decide +kernel
theorem dX7_isBelow_1 : decode cX7_isBelow 1 = .ok (.ifCond .lt 12, 3) := by decide +kernel
theorem dX7_isBelow_4 : decode cX7_isBelow 4 = .ok (.iload_n 0, 1) := by decide +kernel
theorem dX7_isBelow_5 : decode cX7_isBelow 5 = .ok (.iload_n 1, 1) := by decide +kernel
theorem dX7_isBelow_6 : decode cX7_isBelow 6 = .ok (.if_icmp .ge 7, 3) := by decide +kernel
theorem dX7_isBelow_9 : decode cX7_isBelow 9 = .ok (.iconst 1, 1) := by decide +kernel
theorem dX7_isBelow_10 : decode cX7_isBelow 10 = .ok (.goto 4, 3) := by decide +kernel
theorem dX7_isBelow_13 : decode cX7_isBelow 13 = .ok (.iconst 0, 1) := by decide +kernel
theorem dX7_isBelow_14 : decode cX7_isBelow 14 = .ok (.ireturn, 1) := by decide +kernel
set_option maxHeartbeats 4000000 in
set_option maxRecDepth 100000 in
theorem c_X7_isBelow {E : EE} {l : Launch} {g : GG} {ad : Nat → Nat} (hg : gwf g) {x0 : Int} {x1 : Int} {M : Mm} {Q : Int → Mm → Prop} (h : p_X7_isBelow g x0 x1 M Q) : Ct E l yX7_isBelow wsX7_isBelow rmX7_isBelow g ad [cI x0, cI x1] M (QI E g ad Q) := by
  refine ent (cc := cX7_isBelow) (maxL := 2) (ret := (some .boolean)) (own := RX7) (by decide +kernel) rfl rfl (Nat.le_of_ble_eq_true rfl) ?_
  intro p e s m below meth c ls X hr hlk K w hl
  have hl : lv_has ls 2 [(0, cI x0), (1, cI x1)] := hl
  unfold p_X7_isBelow at h
  refine lv_iload_n X.1 X.2.1 dX7_isBelow_0 rfl (lv_at hl 0 rfl) ?_
  obtain ⟨i0, h1, h2⟩ := h
  refine r_if_lt (tgt := 13) X i0 dX7_isBelow_1 (by decide) (fun cc => ?_) (fun cc => ?_)
  · have h := h1 cc
    refine r_iconst X dX7_isBelow_13 ?_
    exact r_zreturn X hr hlk K w (by decide +kernel) h dX7_isBelow_14
  · have h := h2 cc
    refine lv_iload_n X.1 X.2.1 dX7_isBelow_4 rfl (lv_at hl 0 rfl) ?_
    refine lv_iload_n X.1 X.2.1 dX7_isBelow_5 rfl (lv_at hl 1 rfl) ?_
    obtain ⟨i0, i1, h1, h2⟩ := h
    refine r_icmp_ge (tgt := 13) X i0 i1 dX7_isBelow_6 (by decide) (fun cc => ?_) (fun cc => ?_)
    · have h := h1 cc
      refine r_iconst X dX7_isBelow_13 ?_
      exact r_zreturn X hr hlk K w (by decide +kernel) h dX7_isBelow_14
    · have h := h2 cc
      refine r_iconst X dX7_isBelow_9 ?_
      refine lv_goto (tgt := 14) X.1 X.2.1 dX7_isBelow_10 (by decide) ?_
      exact r_zreturn X hr hlk K w (by decide +kernel) h dX7_isBelow_14
end
