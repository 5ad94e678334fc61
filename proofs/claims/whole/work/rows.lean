section
-- ===== PART A: goes FIRST, ahead of the names: the tables' words, and 'selects' of the private methods out of them =====
/-- a private method of a class that the tables say can be made, by its rows of tables_1 -/
def lw_okq (q : MethodName × Nat) : Prop := (q.1.cls ≠ "java/lang/invoke/MethodHandle" ∧ q.1.cls ≠ "java/lang/invoke/VarHandle") ∧ Cond.instantiable q.1.cls q.2 ∈ tables_1 ∧ Cond.privateMethod q.1 ∈ tables_1 ∧ Cond.instanceMethod q.1 ∈ tables_1
theorem lw_p0 : lw_okq (⟨"SoundArchive$Table", "isFull", "()Z"⟩, 3) := ⟨⟨by decide +kernel, by decide +kernel⟩, List.mem_of_getElem? (i := 29) (by decide +kernel), List.mem_of_getElem? (i := 207) (by decide +kernel), List.mem_of_getElem? (i := 208) (by decide +kernel)⟩
theorem lw_p1 : lw_okq (⟨"SoundArchive$History", "keep", "(LSoundArchive$State;)V"⟩, 3) := ⟨⟨by decide +kernel, by decide +kernel⟩, List.mem_of_getElem? (i := 92) (by decide +kernel), List.mem_of_getElem? (i := 211) (by decide +kernel), List.mem_of_getElem? (i := 212) (by decide +kernel)⟩
theorem lw_p2 : lw_okq (⟨"SoundArchive$History", "stateAt", "(I)LSoundArchive$State;"⟩, 3) := ⟨⟨by decide +kernel, by decide +kernel⟩, List.mem_of_getElem? (i := 92) (by decide +kernel), List.mem_of_getElem? (i := 215) (by decide +kernel), List.mem_of_getElem? (i := 216) (by decide +kernel)⟩
theorem lw_p3 : lw_okq (⟨"SoundArchive$State", "copyFrom", "(LSoundArchive$State;)V"⟩, 10) := ⟨⟨by decide +kernel, by decide +kernel⟩, List.mem_of_getElem? (i := 23) (by decide +kernel), List.mem_of_getElem? (i := 219) (by decide +kernel), List.mem_of_getElem? (i := 220) (by decide +kernel)⟩
theorem lw_p4 : lw_okq (⟨"SoundArchive$Table", "copyFrom", "(LSoundArchive$Table;)V"⟩, 3) := ⟨⟨by decide +kernel, by decide +kernel⟩, List.mem_of_getElem? (i := 29) (by decide +kernel), List.mem_of_getElem? (i := 223) (by decide +kernel), List.mem_of_getElem? (i := 224) (by decide +kernel)⟩
theorem lw_p5 : lw_okq (⟨"SoundArchive$Table", "addRow", "()I"⟩, 3) := ⟨⟨by decide +kernel, by decide +kernel⟩, List.mem_of_getElem? (i := 29) (by decide +kernel), List.mem_of_getElem? (i := 234) (by decide +kernel), List.mem_of_getElem? (i := 235) (by decide +kernel)⟩
theorem lw_p6 : lw_okq (⟨"SoundArchive$Table", "set", "(III)V"⟩, 3) := ⟨⟨by decide +kernel, by decide +kernel⟩, List.mem_of_getElem? (i := 29) (by decide +kernel), List.mem_of_getElem? (i := 239) (by decide +kernel), List.mem_of_getElem? (i := 240) (by decide +kernel)⟩
theorem lw_p7 : lw_okq (⟨"SoundArchive$Table", "has", "(I)Z"⟩, 3) := ⟨⟨by decide +kernel, by decide +kernel⟩, List.mem_of_getElem? (i := 29) (by decide +kernel), List.mem_of_getElem? (i := 254) (by decide +kernel), List.mem_of_getElem? (i := 255) (by decide +kernel)⟩
theorem lw_p8 : lw_okq (⟨"SoundArchive$Table", "get", "(II)I"⟩, 3) := ⟨⟨by decide +kernel, by decide +kernel⟩, List.mem_of_getElem? (i := 29) (by decide +kernel), List.mem_of_getElem? (i := 258) (by decide +kernel), List.mem_of_getElem? (i := 259) (by decide +kernel)⟩
theorem lw_p9 : lw_okq (⟨"SoundArchive", "isTaken", "(IIII)Z"⟩, 7) := ⟨⟨by decide +kernel, by decide +kernel⟩, List.mem_of_getElem? (i := 15) (by decide +kernel), List.mem_of_getElem? (i := 271) (by decide +kernel), List.mem_of_getElem? (i := 272) (by decide +kernel)⟩
theorem lw_p10 : lw_okq (⟨"SoundArchive$Table", "add", "(III)V"⟩, 3) := ⟨⟨by decide +kernel, by decide +kernel⟩, List.mem_of_getElem? (i := 29) (by decide +kernel), List.mem_of_getElem? (i := 275) (by decide +kernel), List.mem_of_getElem? (i := 276) (by decide +kernel)⟩
theorem lw_p11 : lw_okq (⟨"SoundArchive", "lengthOfRecording", "(I)I"⟩, 7) := ⟨⟨by decide +kernel, by decide +kernel⟩, List.mem_of_getElem? (i := 15) (by decide +kernel), List.mem_of_getElem? (i := 285) (by decide +kernel), List.mem_of_getElem? (i := 286) (by decide +kernel)⟩
theorem lw_p12 : lw_okq (⟨"SoundArchive", "tryPass", "(IIIIZ)I"⟩, 7) := ⟨⟨by decide +kernel, by decide +kernel⟩, List.mem_of_getElem? (i := 15) (by decide +kernel), List.mem_of_getElem? (i := 299) (by decide +kernel), List.mem_of_getElem? (i := 300) (by decide +kernel)⟩
theorem lw_p13 : lw_okq (⟨"SoundArchive", "canPlay", "(II)Z"⟩, 7) := ⟨⟨by decide +kernel, by decide +kernel⟩, List.mem_of_getElem? (i := 15) (by decide +kernel), List.mem_of_getElem? (i := 303) (by decide +kernel), List.mem_of_getElem? (i := 304) (by decide +kernel)⟩
theorem lw_p14 : lw_okq (⟨"SoundArchive", "refusalOfPass", "(IIII)I"⟩, 7) := ⟨⟨by decide +kernel, by decide +kernel⟩, List.mem_of_getElem? (i := 15) (by decide +kernel), List.mem_of_getElem? (i := 310) (by decide +kernel), List.mem_of_getElem? (i := 311) (by decide +kernel)⟩
theorem lw_p15 : lw_okq (⟨"SoundArchive", "isSameKind", "(II)Z"⟩, 7) := ⟨⟨by decide +kernel, by decide +kernel⟩, List.mem_of_getElem? (i := 15) (by decide +kernel), List.mem_of_getElem? (i := 314) (by decide +kernel), List.mem_of_getElem? (i := 315) (by decide +kernel)⟩
def lw_privs_1 : List (MethodName × Nat) := [(⟨"SoundArchive$Table", "isFull", "()Z"⟩, 3), (⟨"SoundArchive$History", "keep", "(LSoundArchive$State;)V"⟩, 3), (⟨"SoundArchive$History", "stateAt", "(I)LSoundArchive$State;"⟩, 3), (⟨"SoundArchive$State", "copyFrom", "(LSoundArchive$State;)V"⟩, 10), (⟨"SoundArchive$Table", "copyFrom", "(LSoundArchive$Table;)V"⟩, 3), (⟨"SoundArchive$Table", "addRow", "()I"⟩, 3), (⟨"SoundArchive$Table", "set", "(III)V"⟩, 3), (⟨"SoundArchive$Table", "has", "(I)Z"⟩, 3), (⟨"SoundArchive$Table", "get", "(II)I"⟩, 3), (⟨"SoundArchive", "isTaken", "(IIII)Z"⟩, 7), (⟨"SoundArchive$Table", "add", "(III)V"⟩, 3), (⟨"SoundArchive", "lengthOfRecording", "(I)I"⟩, 7), (⟨"SoundArchive", "tryPass", "(IIIIZ)I"⟩, 7), (⟨"SoundArchive", "canPlay", "(II)Z"⟩, 7), (⟨"SoundArchive", "refusalOfPass", "(IIII)I"⟩, 7), (⟨"SoundArchive", "isSameKind", "(II)Z"⟩, 7)]
theorem lw_r1 : ∀ q ∈ lw_privs_1, lw_okq q := List.forall_mem_cons.mpr ⟨lw_p0, List.forall_mem_cons.mpr ⟨lw_p1, List.forall_mem_cons.mpr ⟨lw_p2, List.forall_mem_cons.mpr ⟨lw_p3, List.forall_mem_cons.mpr ⟨lw_p4, List.forall_mem_cons.mpr ⟨lw_p5, List.forall_mem_cons.mpr ⟨lw_p6, List.forall_mem_cons.mpr ⟨lw_p7, List.forall_mem_cons.mpr ⟨lw_p8, List.forall_mem_cons.mpr ⟨lw_p9, List.forall_mem_cons.mpr ⟨lw_p10, List.forall_mem_cons.mpr ⟨lw_p11, List.forall_mem_cons.mpr ⟨lw_p12, List.forall_mem_cons.mpr ⟨lw_p13, List.forall_mem_cons.mpr ⟨lw_p14, List.forall_mem_cons.mpr ⟨lw_p15, fun _ h => absurd h List.not_mem_nil⟩⟩⟩⟩⟩⟩⟩⟩⟩⟩⟩⟩⟩⟩⟩⟩
theorem lw_p16 : lw_okq (⟨"SoundArchive", "playsOfPass", "(II)I"⟩, 7) := ⟨⟨by decide +kernel, by decide +kernel⟩, List.mem_of_getElem? (i := 15) (by decide +kernel), List.mem_of_getElem? (i := 318) (by decide +kernel), List.mem_of_getElem? (i := 319) (by decide +kernel)⟩
theorem lw_p17 : lw_okq (⟨"SoundArchive", "secondsOfPass", "(II)I"⟩, 7) := ⟨⟨by decide +kernel, by decide +kernel⟩, List.mem_of_getElem? (i := 15) (by decide +kernel), List.mem_of_getElem? (i := 322) (by decide +kernel), List.mem_of_getElem? (i := 323) (by decide +kernel)⟩
theorem lw_p18 : lw_okq (⟨"SoundArchive", "tracksHeard", "(IIIII)I"⟩, 7) := ⟨⟨by decide +kernel, by decide +kernel⟩, List.mem_of_getElem? (i := 15) (by decide +kernel), List.mem_of_getElem? (i := 326) (by decide +kernel), List.mem_of_getElem? (i := 327) (by decide +kernel)⟩
theorem lw_p19 : lw_okq (⟨"SoundArchive", "captureNow", "(IIIII)I"⟩, 7) := ⟨⟨by decide +kernel, by decide +kernel⟩, List.mem_of_getElem? (i := 15) (by decide +kernel), List.mem_of_getElem? (i := 330) (by decide +kernel), List.mem_of_getElem? (i := 331) (by decide +kernel)⟩
theorem lw_p20 : lw_okq (⟨"SoundArchive", "makePass", "(IIII)I"⟩, 7) := ⟨⟨by decide +kernel, by decide +kernel⟩, List.mem_of_getElem? (i := 15) (by decide +kernel), List.mem_of_getElem? (i := 356) (by decide +kernel), List.mem_of_getElem? (i := 357) (by decide +kernel)⟩
theorem lw_p21 : lw_okq (⟨"SoundArchive$Table", "countOf", "(II)I"⟩, 3) := ⟨⟨by decide +kernel, by decide +kernel⟩, List.mem_of_getElem? (i := 29) (by decide +kernel), List.mem_of_getElem? (i := 372) (by decide +kernel), List.mem_of_getElem? (i := 373) (by decide +kernel)⟩
theorem lw_p22 : lw_okq (⟨"SoundArchive", "errorOfExcerpt", "(IIIII)I"⟩, 7) := ⟨⟨by decide +kernel, by decide +kernel⟩, List.mem_of_getElem? (i := 15) (by decide +kernel), List.mem_of_getElem? (i := 380) (by decide +kernel), List.mem_of_getElem? (i := 381) (by decide +kernel)⟩
theorem lw_p23 : lw_okq (⟨"SoundArchive", "isOpen", "(I)Z"⟩, 7) := ⟨⟨by decide +kernel, by decide +kernel⟩, List.mem_of_getElem? (i := 15) (by decide +kernel), List.mem_of_getElem? (i := 388) (by decide +kernel), List.mem_of_getElem? (i := 389) (by decide +kernel)⟩
theorem lw_p24 : lw_okq (⟨"SoundArchive", "tryAnswer", "(IZ)I"⟩, 7) := ⟨⟨by decide +kernel, by decide +kernel⟩, List.mem_of_getElem? (i := 15) (by decide +kernel), List.mem_of_getElem? (i := 400) (by decide +kernel), List.mem_of_getElem? (i := 401) (by decide +kernel)⟩
theorem lw_p25 : lw_okq (⟨"SoundArchive", "refusalOfAnswer", "(I)I"⟩, 7) := ⟨⟨by decide +kernel, by decide +kernel⟩, List.mem_of_getElem? (i := 15) (by decide +kernel), List.mem_of_getElem? (i := 404) (by decide +kernel), List.mem_of_getElem? (i := 405) (by decide +kernel)⟩
theorem lw_p26 : lw_okq (⟨"SoundArchive", "findBestPass", "(I)I"⟩, 7) := ⟨⟨by decide +kernel, by decide +kernel⟩, List.mem_of_getElem? (i := 15) (by decide +kernel), List.mem_of_getElem? (i := 408) (by decide +kernel), List.mem_of_getElem? (i := 409) (by decide +kernel)⟩
theorem lw_p27 : lw_okq (⟨"SoundArchive", "qualityInPass", "(II)I"⟩, 7) := ⟨⟨by decide +kernel, by decide +kernel⟩, List.mem_of_getElem? (i := 15) (by decide +kernel), List.mem_of_getElem? (i := 412) (by decide +kernel), List.mem_of_getElem? (i := 413) (by decide +kernel)⟩
theorem lw_p28 : lw_okq (⟨"SoundArchive", "partsLacking", "(IIIII)I"⟩, 7) := ⟨⟨by decide +kernel, by decide +kernel⟩, List.mem_of_getElem? (i := 15) (by decide +kernel), List.mem_of_getElem? (i := 416) (by decide +kernel), List.mem_of_getElem? (i := 417) (by decide +kernel)⟩
theorem lw_p29 : lw_okq (⟨"SoundArchive", "boundSeconds", "(IIII)I"⟩, 7) := ⟨⟨by decide +kernel, by decide +kernel⟩, List.mem_of_getElem? (i := 15) (by decide +kernel), List.mem_of_getElem? (i := 420) (by decide +kernel), List.mem_of_getElem? (i := 421) (by decide +kernel)⟩
theorem lw_p30 : lw_okq (⟨"SoundArchive", "isProtected", "(I)Z"⟩, 7) := ⟨⟨by decide +kernel, by decide +kernel⟩, List.mem_of_getElem? (i := 15) (by decide +kernel), List.mem_of_getElem? (i := 424) (by decide +kernel), List.mem_of_getElem? (i := 425) (by decide +kernel)⟩
theorem lw_p31 : lw_okq (⟨"SoundArchive", "isPermitted", "(III)Z"⟩, 7) := ⟨⟨by decide +kernel, by decide +kernel⟩, List.mem_of_getElem? (i := 15) (by decide +kernel), List.mem_of_getElem? (i := 428) (by decide +kernel), List.mem_of_getElem? (i := 429) (by decide +kernel)⟩
def lw_privs_2 : List (MethodName × Nat) := [(⟨"SoundArchive", "playsOfPass", "(II)I"⟩, 7), (⟨"SoundArchive", "secondsOfPass", "(II)I"⟩, 7), (⟨"SoundArchive", "tracksHeard", "(IIIII)I"⟩, 7), (⟨"SoundArchive", "captureNow", "(IIIII)I"⟩, 7), (⟨"SoundArchive", "makePass", "(IIII)I"⟩, 7), (⟨"SoundArchive$Table", "countOf", "(II)I"⟩, 3), (⟨"SoundArchive", "errorOfExcerpt", "(IIIII)I"⟩, 7), (⟨"SoundArchive", "isOpen", "(I)Z"⟩, 7), (⟨"SoundArchive", "tryAnswer", "(IZ)I"⟩, 7), (⟨"SoundArchive", "refusalOfAnswer", "(I)I"⟩, 7), (⟨"SoundArchive", "findBestPass", "(I)I"⟩, 7), (⟨"SoundArchive", "qualityInPass", "(II)I"⟩, 7), (⟨"SoundArchive", "partsLacking", "(IIIII)I"⟩, 7), (⟨"SoundArchive", "boundSeconds", "(IIII)I"⟩, 7), (⟨"SoundArchive", "isProtected", "(I)Z"⟩, 7), (⟨"SoundArchive", "isPermitted", "(III)Z"⟩, 7)]
theorem lw_r2 : ∀ q ∈ lw_privs_2, lw_okq q := List.forall_mem_cons.mpr ⟨lw_p16, List.forall_mem_cons.mpr ⟨lw_p17, List.forall_mem_cons.mpr ⟨lw_p18, List.forall_mem_cons.mpr ⟨lw_p19, List.forall_mem_cons.mpr ⟨lw_p20, List.forall_mem_cons.mpr ⟨lw_p21, List.forall_mem_cons.mpr ⟨lw_p22, List.forall_mem_cons.mpr ⟨lw_p23, List.forall_mem_cons.mpr ⟨lw_p24, List.forall_mem_cons.mpr ⟨lw_p25, List.forall_mem_cons.mpr ⟨lw_p26, List.forall_mem_cons.mpr ⟨lw_p27, List.forall_mem_cons.mpr ⟨lw_p28, List.forall_mem_cons.mpr ⟨lw_p29, List.forall_mem_cons.mpr ⟨lw_p30, List.forall_mem_cons.mpr ⟨lw_p31, fun _ h => absurd h List.not_mem_nil⟩⟩⟩⟩⟩⟩⟩⟩⟩⟩⟩⟩⟩⟩⟩⟩
theorem lw_p32 : lw_okq (⟨"SoundArchive", "giveAnswer", "(I)I"⟩, 7) := ⟨⟨by decide +kernel, by decide +kernel⟩, List.mem_of_getElem? (i := 15) (by decide +kernel), List.mem_of_getElem? (i := 432) (by decide +kernel), List.mem_of_getElem? (i := 433) (by decide +kernel)⟩
theorem lw_p33 : lw_okq (⟨"SoundArchive", "feeOfPart", "(IIIII)I"⟩, 7) := ⟨⟨by decide +kernel, by decide +kernel⟩, List.mem_of_getElem? (i := 15) (by decide +kernel), List.mem_of_getElem? (i := 436) (by decide +kernel), List.mem_of_getElem? (i := 437) (by decide +kernel)⟩
theorem lw_p34 : lw_okq (⟨"SoundArchive", "tryDays", "(IZ)I"⟩, 7) := ⟨⟨by decide +kernel, by decide +kernel⟩, List.mem_of_getElem? (i := 15) (by decide +kernel), List.mem_of_getElem? (i := 447) (by decide +kernel), List.mem_of_getElem? (i := 448) (by decide +kernel)⟩
theorem lw_p35 : lw_okq (⟨"SoundArchive$Text", "put", "(I)Z"⟩, 3) := ⟨⟨by decide +kernel, by decide +kernel⟩, List.mem_of_getElem? (i := 128) (by decide +kernel), List.mem_of_getElem? (i := 455) (by decide +kernel), List.mem_of_getElem? (i := 456) (by decide +kernel)⟩
theorem lw_p36 : lw_okq (⟨"SoundArchive$Text", "findFault", "()I"⟩, 3) := ⟨⟨by decide +kernel, by decide +kernel⟩, List.mem_of_getElem? (i := 128) (by decide +kernel), List.mem_of_getElem? (i := 467) (by decide +kernel), List.mem_of_getElem? (i := 468) (by decide +kernel)⟩
theorem lw_p37 : lw_okq (⟨"SoundArchive$Text", "readAct", "(I)I"⟩, 3) := ⟨⟨by decide +kernel, by decide +kernel⟩, List.mem_of_getElem? (i := 128) (by decide +kernel), List.mem_of_getElem? (i := 471) (by decide +kernel), List.mem_of_getElem? (i := 472) (by decide +kernel)⟩
theorem lw_p38 : lw_okq (⟨"SoundArchive$Text", "byteAt", "(I)I"⟩, 3) := ⟨⟨by decide +kernel, by decide +kernel⟩, List.mem_of_getElem? (i := 128) (by decide +kernel), List.mem_of_getElem? (i := 475) (by decide +kernel), List.mem_of_getElem? (i := 476) (by decide +kernel)⟩
theorem lw_p39 : lw_okq (⟨"SoundArchive$Text", "readNumber", "(IIIII)I"⟩, 3) := ⟨⟨by decide +kernel, by decide +kernel⟩, List.mem_of_getElem? (i := 128) (by decide +kernel), List.mem_of_getElem? (i := 479) (by decide +kernel), List.mem_of_getElem? (i := 480) (by decide +kernel)⟩
theorem lw_p40 : lw_okq (⟨"SoundArchive$Text", "endOfDigits", "(I)I"⟩, 3) := ⟨⟨by decide +kernel, by decide +kernel⟩, List.mem_of_getElem? (i := 128) (by decide +kernel), List.mem_of_getElem? (i := 486) (by decide +kernel), List.mem_of_getElem? (i := 487) (by decide +kernel)⟩
theorem lw_p41 : lw_okq (⟨"SoundArchive$Text", "valueOfDigits", "(II)I"⟩, 3) := ⟨⟨by decide +kernel, by decide +kernel⟩, List.mem_of_getElem? (i := 128) (by decide +kernel), List.mem_of_getElem? (i := 490) (by decide +kernel), List.mem_of_getElem? (i := 491) (by decide +kernel)⟩
theorem lw_p42 : lw_okq (⟨"SoundArchive$Text", "readEnd", "(I)I"⟩, 3) := ⟨⟨by decide +kernel, by decide +kernel⟩, List.mem_of_getElem? (i := 128) (by decide +kernel), List.mem_of_getElem? (i := 494) (by decide +kernel), List.mem_of_getElem? (i := 495) (by decide +kernel)⟩
theorem lw_p43 : lw_okq (⟨"SoundArchive", "carryOut", "(I)I"⟩, 7) := ⟨⟨by decide +kernel, by decide +kernel⟩, List.mem_of_getElem? (i := 15) (by decide +kernel), List.mem_of_getElem? (i := 504) (by decide +kernel), List.mem_of_getElem? (i := 505) (by decide +kernel)⟩
theorem lw_p44 : lw_okq (⟨"SoundArchive$Text", "number", "(I)I"⟩, 3) := ⟨⟨by decide +kernel, by decide +kernel⟩, List.mem_of_getElem? (i := 128) (by decide +kernel), List.mem_of_getElem? (i := 508) (by decide +kernel), List.mem_of_getElem? (i := 509) (by decide +kernel)⟩
theorem lw_p45 : lw_okq (⟨"SoundArchive$History", "takeBack", "(LSoundArchive$State;)V"⟩, 3) := ⟨⟨by decide +kernel, by decide +kernel⟩, List.mem_of_getElem? (i := 92) (by decide +kernel), List.mem_of_getElem? (i := 516) (by decide +kernel), List.mem_of_getElem? (i := 517) (by decide +kernel)⟩
theorem lw_p46 : lw_okq (⟨"SoundArchive", "slotOf", "(I)LSoundArchive$Slot;"⟩, 7) := ⟨⟨by decide +kernel, by decide +kernel⟩, List.mem_of_getElem? (i := 15) (by decide +kernel), List.mem_of_getElem? (i := 525) (by decide +kernel), List.mem_of_getElem? (i := 526) (by decide +kernel)⟩
theorem lw_p47 : lw_okq (⟨"SoundArchive", "hasTrack", "(II)Z"⟩, 7) := ⟨⟨by decide +kernel, by decide +kernel⟩, List.mem_of_getElem? (i := 15) (by decide +kernel), List.mem_of_getElem? (i := 561) (by decide +kernel), List.mem_of_getElem? (i := 562) (by decide +kernel)⟩
def lw_privs_3 : List (MethodName × Nat) := [(⟨"SoundArchive", "giveAnswer", "(I)I"⟩, 7), (⟨"SoundArchive", "feeOfPart", "(IIIII)I"⟩, 7), (⟨"SoundArchive", "tryDays", "(IZ)I"⟩, 7), (⟨"SoundArchive$Text", "put", "(I)Z"⟩, 3), (⟨"SoundArchive$Text", "findFault", "()I"⟩, 3), (⟨"SoundArchive$Text", "readAct", "(I)I"⟩, 3), (⟨"SoundArchive$Text", "byteAt", "(I)I"⟩, 3), (⟨"SoundArchive$Text", "readNumber", "(IIIII)I"⟩, 3), (⟨"SoundArchive$Text", "endOfDigits", "(I)I"⟩, 3), (⟨"SoundArchive$Text", "valueOfDigits", "(II)I"⟩, 3), (⟨"SoundArchive$Text", "readEnd", "(I)I"⟩, 3), (⟨"SoundArchive", "carryOut", "(I)I"⟩, 7), (⟨"SoundArchive$Text", "number", "(I)I"⟩, 3), (⟨"SoundArchive$History", "takeBack", "(LSoundArchive$State;)V"⟩, 3), (⟨"SoundArchive", "slotOf", "(I)LSoundArchive$Slot;"⟩, 7), (⟨"SoundArchive", "hasTrack", "(II)Z"⟩, 7)]
theorem lw_r3 : ∀ q ∈ lw_privs_3, lw_okq q := List.forall_mem_cons.mpr ⟨lw_p32, List.forall_mem_cons.mpr ⟨lw_p33, List.forall_mem_cons.mpr ⟨lw_p34, List.forall_mem_cons.mpr ⟨lw_p35, List.forall_mem_cons.mpr ⟨lw_p36, List.forall_mem_cons.mpr ⟨lw_p37, List.forall_mem_cons.mpr ⟨lw_p38, List.forall_mem_cons.mpr ⟨lw_p39, List.forall_mem_cons.mpr ⟨lw_p40, List.forall_mem_cons.mpr ⟨lw_p41, List.forall_mem_cons.mpr ⟨lw_p42, List.forall_mem_cons.mpr ⟨lw_p43, List.forall_mem_cons.mpr ⟨lw_p44, List.forall_mem_cons.mpr ⟨lw_p45, List.forall_mem_cons.mpr ⟨lw_p46, List.forall_mem_cons.mpr ⟨lw_p47, fun _ h => absurd h List.not_mem_nil⟩⟩⟩⟩⟩⟩⟩⟩⟩⟩⟩⟩⟩⟩⟩⟩
theorem lw_p48 : lw_okq (⟨"SoundArchive", "feeOfExcerpt", "(IIIII)I"⟩, 7) := ⟨⟨by decide +kernel, by decide +kernel⟩, List.mem_of_getElem? (i := 15) (by decide +kernel), List.mem_of_getElem? (i := 592) (by decide +kernel), List.mem_of_getElem? (i := 593) (by decide +kernel)⟩
theorem lw_p49 : lw_okq (⟨"SoundArchive", "openAheadOf", "(I)I"⟩, 7) := ⟨⟨by decide +kernel, by decide +kernel⟩, List.mem_of_getElem? (i := 15) (by decide +kernel), List.mem_of_getElem? (i := 608) (by decide +kernel), List.mem_of_getElem? (i := 609) (by decide +kernel)⟩
theorem lw_p50 : lw_okq (⟨"SoundArchive", "comesBefore", "(II)Z"⟩, 7) := ⟨⟨by decide +kernel, by decide +kernel⟩, List.mem_of_getElem? (i := 15) (by decide +kernel), List.mem_of_getElem? (i := 612) (by decide +kernel), List.mem_of_getElem? (i := 613) (by decide +kernel)⟩
theorem lw_p51 : lw_okq (⟨"SoundArchive", "makePlan", "(I)Z"⟩, 7) := ⟨⟨by decide +kernel, by decide +kernel⟩, List.mem_of_getElem? (i := 15) (by decide +kernel), List.mem_of_getElem? (i := 632) (by decide +kernel), List.mem_of_getElem? (i := 633) (by decide +kernel)⟩
theorem lw_p52 : lw_okq (⟨"SoundArchive", "canPlan", "(III)Z"⟩, 7) := ⟨⟨by decide +kernel, by decide +kernel⟩, List.mem_of_getElem? (i := 15) (by decide +kernel), List.mem_of_getElem? (i := 637) (by decide +kernel), List.mem_of_getElem? (i := 638) (by decide +kernel)⟩
theorem lw_p53 : lw_okq (⟨"SoundArchive", "improvePlan", "(ZIIII)Z"⟩, 7) := ⟨⟨by decide +kernel, by decide +kernel⟩, List.mem_of_getElem? (i := 15) (by decide +kernel), List.mem_of_getElem? (i := 641) (by decide +kernel), List.mem_of_getElem? (i := 642) (by decide +kernel)⟩
theorem lw_p54 : lw_okq (⟨"SoundArchive", "qualityNow", "(IIII)I"⟩, 7) := ⟨⟨by decide +kernel, by decide +kernel⟩, List.mem_of_getElem? (i := 15) (by decide +kernel), List.mem_of_getElem? (i := 645) (by decide +kernel), List.mem_of_getElem? (i := 646) (by decide +kernel)⟩
theorem lw_p55 : lw_okq (⟨"SoundArchive$Cover", "clear", "()V"⟩, 5) := ⟨⟨by decide +kernel, by decide +kernel⟩, List.mem_of_getElem? (i := 145) (by decide +kernel), List.mem_of_getElem? (i := 653) (by decide +kernel), List.mem_of_getElem? (i := 654) (by decide +kernel)⟩
theorem lw_p56 : lw_okq (⟨"SoundArchive$Cover", "addNeed", "(I)V"⟩, 5) := ⟨⟨by decide +kernel, by decide +kernel⟩, List.mem_of_getElem? (i := 145) (by decide +kernel), List.mem_of_getElem? (i := 657) (by decide +kernel), List.mem_of_getElem? (i := 658) (by decide +kernel)⟩
theorem lw_p57 : lw_okq (⟨"SoundArchive", "offerPasses", "(III)V"⟩, 7) := ⟨⟨by decide +kernel, by decide +kernel⟩, List.mem_of_getElem? (i := 15) (by decide +kernel), List.mem_of_getElem? (i := 661) (by decide +kernel), List.mem_of_getElem? (i := 662) (by decide +kernel)⟩
theorem lw_p58 : lw_okq (⟨"SoundArchive$Cover", "addOffer", "(I)V"⟩, 5) := ⟨⟨by decide +kernel, by decide +kernel⟩, List.mem_of_getElem? (i := 145) (by decide +kernel), List.mem_of_getElem? (i := 665) (by decide +kernel), List.mem_of_getElem? (i := 666) (by decide +kernel)⟩
theorem lw_p59 : lw_okq (⟨"SoundArchive$Cover", "findFewest", "()I"⟩, 5) := ⟨⟨by decide +kernel, by decide +kernel⟩, List.mem_of_getElem? (i := 145) (by decide +kernel), List.mem_of_getElem? (i := 669) (by decide +kernel), List.mem_of_getElem? (i := 670) (by decide +kernel)⟩
theorem lw_p60 : lw_okq (⟨"SoundArchive$Cover", "fewestFor", "(I)I"⟩, 5) := ⟨⟨by decide +kernel, by decide +kernel⟩, List.mem_of_getElem? (i := 145) (by decide +kernel), List.mem_of_getElem? (i := 674) (by decide +kernel), List.mem_of_getElem? (i := 675) (by decide +kernel)⟩
theorem lw_p61 : lw_okq (⟨"SoundArchiveModel", "placeOfSpeed", "(II)I"⟩, 13) := ⟨⟨by decide +kernel, by decide +kernel⟩, List.mem_of_getElem? (i := 678) (by decide +kernel), List.mem_of_getElem? (i := 732) (by decide +kernel), List.mem_of_getElem? (i := 733) (by decide +kernel)⟩
theorem lw_p62 : lw_okq (⟨"SoundArchiveModel", "hasLayout", "(II)Z"⟩, 13) := ⟨⟨by decide +kernel, by decide +kernel⟩, List.mem_of_getElem? (i := 678) (by decide +kernel), List.mem_of_getElem? (i := 736) (by decide +kernel), List.mem_of_getElem? (i := 737) (by decide +kernel)⟩
theorem lw_p63 : lw_okq (⟨"SoundArchiveModel", "record", "()V"⟩, 13) := ⟨⟨by decide +kernel, by decide +kernel⟩, List.mem_of_getElem? (i := 678) (by decide +kernel), List.mem_of_getElem? (i := 740) (by decide +kernel), List.mem_of_getElem? (i := 741) (by decide +kernel)⟩
def lw_privs_4 : List (MethodName × Nat) := [(⟨"SoundArchive", "feeOfExcerpt", "(IIIII)I"⟩, 7), (⟨"SoundArchive", "openAheadOf", "(I)I"⟩, 7), (⟨"SoundArchive", "comesBefore", "(II)Z"⟩, 7), (⟨"SoundArchive", "makePlan", "(I)Z"⟩, 7), (⟨"SoundArchive", "canPlan", "(III)Z"⟩, 7), (⟨"SoundArchive", "improvePlan", "(ZIIII)Z"⟩, 7), (⟨"SoundArchive", "qualityNow", "(IIII)I"⟩, 7), (⟨"SoundArchive$Cover", "clear", "()V"⟩, 5), (⟨"SoundArchive$Cover", "addNeed", "(I)V"⟩, 5), (⟨"SoundArchive", "offerPasses", "(III)V"⟩, 7), (⟨"SoundArchive$Cover", "addOffer", "(I)V"⟩, 5), (⟨"SoundArchive$Cover", "findFewest", "()I"⟩, 5), (⟨"SoundArchive$Cover", "fewestFor", "(I)I"⟩, 5), (⟨"SoundArchiveModel", "placeOfSpeed", "(II)I"⟩, 13), (⟨"SoundArchiveModel", "hasLayout", "(II)Z"⟩, 13), (⟨"SoundArchiveModel", "record", "()V"⟩, 13)]
theorem lw_r4 : ∀ q ∈ lw_privs_4, lw_okq q := List.forall_mem_cons.mpr ⟨lw_p48, List.forall_mem_cons.mpr ⟨lw_p49, List.forall_mem_cons.mpr ⟨lw_p50, List.forall_mem_cons.mpr ⟨lw_p51, List.forall_mem_cons.mpr ⟨lw_p52, List.forall_mem_cons.mpr ⟨lw_p53, List.forall_mem_cons.mpr ⟨lw_p54, List.forall_mem_cons.mpr ⟨lw_p55, List.forall_mem_cons.mpr ⟨lw_p56, List.forall_mem_cons.mpr ⟨lw_p57, List.forall_mem_cons.mpr ⟨lw_p58, List.forall_mem_cons.mpr ⟨lw_p59, List.forall_mem_cons.mpr ⟨lw_p60, List.forall_mem_cons.mpr ⟨lw_p61, List.forall_mem_cons.mpr ⟨lw_p62, List.forall_mem_cons.mpr ⟨lw_p63, fun _ h => absurd h List.not_mem_nil⟩⟩⟩⟩⟩⟩⟩⟩⟩⟩⟩⟩⟩⟩⟩⟩
theorem lw_p64 : lw_okq (⟨"SoundArchiveModel", "isOne", "(II)Z"⟩, 13) := ⟨⟨by decide +kernel, by decide +kernel⟩, List.mem_of_getElem? (i := 678) (by decide +kernel), List.mem_of_getElem? (i := 752) (by decide +kernel), List.mem_of_getElem? (i := 753) (by decide +kernel)⟩
theorem lw_p65 : lw_okq (⟨"SoundArchiveModel", "isExcerpt", "(III)Z"⟩, 13) := ⟨⟨by decide +kernel, by decide +kernel⟩, List.mem_of_getElem? (i := 678) (by decide +kernel), List.mem_of_getElem? (i := 769) (by decide +kernel), List.mem_of_getElem? (i := 770) (by decide +kernel)⟩
theorem lw_p66 : lw_okq (⟨"SoundArchiveModel", "plays", "(IIIIZ)I"⟩, 13) := ⟨⟨by decide +kernel, by decide +kernel⟩, List.mem_of_getElem? (i := 678) (by decide +kernel), List.mem_of_getElem? (i := 777) (by decide +kernel), List.mem_of_getElem? (i := 778) (by decide +kernel)⟩
theorem lw_p67 : lw_okq (⟨"SoundArchiveModel", "errorOf", "(IIII)I"⟩, 13) := ⟨⟨by decide +kernel, by decide +kernel⟩, List.mem_of_getElem? (i := 678) (by decide +kernel), List.mem_of_getElem? (i := 781) (by decide +kernel), List.mem_of_getElem? (i := 782) (by decide +kernel)⟩
theorem lw_p68 : lw_okq (⟨"SoundArchiveModel", "hasSpeed", "(II)Z"⟩, 13) := ⟨⟨by decide +kernel, by decide +kernel⟩, List.mem_of_getElem? (i := 678) (by decide +kernel), List.mem_of_getElem? (i := 785) (by decide +kernel), List.mem_of_getElem? (i := 786) (by decide +kernel)⟩
theorem lw_p69 : lw_okq (⟨"SoundArchiveModel", "reasonAgainst", "(IIII)I"⟩, 13) := ⟨⟨by decide +kernel, by decide +kernel⟩, List.mem_of_getElem? (i := 678) (by decide +kernel), List.mem_of_getElem? (i := 789) (by decide +kernel), List.mem_of_getElem? (i := 790) (by decide +kernel)⟩
theorem lw_p70 : lw_okq (⟨"SoundArchiveModel", "playsFor", "(II)I"⟩, 13) := ⟨⟨by decide +kernel, by decide +kernel⟩, List.mem_of_getElem? (i := 678) (by decide +kernel), List.mem_of_getElem? (i := 793) (by decide +kernel), List.mem_of_getElem? (i := 794) (by decide +kernel)⟩
theorem lw_p71 : lw_okq (⟨"SoundArchiveModel", "timeOf", "(II)I"⟩, 13) := ⟨⟨by decide +kernel, by decide +kernel⟩, List.mem_of_getElem? (i := 678) (by decide +kernel), List.mem_of_getElem? (i := 797) (by decide +kernel), List.mem_of_getElem? (i := 798) (by decide +kernel)⟩
theorem lw_p72 : lw_okq (⟨"SoundArchiveModel", "hears", "(IIII)Z"⟩, 13) := ⟨⟨by decide +kernel, by decide +kernel⟩, List.mem_of_getElem? (i := 678) (by decide +kernel), List.mem_of_getElem? (i := 801) (by decide +kernel), List.mem_of_getElem? (i := 802) (by decide +kernel)⟩
theorem lw_p73 : lw_okq (⟨"SoundArchiveModel", "captureOf", "(IIIII)I"⟩, 13) := ⟨⟨by decide +kernel, by decide +kernel⟩, List.mem_of_getElem? (i := 678) (by decide +kernel), List.mem_of_getElem? (i := 805) (by decide +kernel), List.mem_of_getElem? (i := 806) (by decide +kernel)⟩
theorem lw_p74 : lw_okq (⟨"SoundArchiveModel", "readBy", "(IIII)I"⟩, 13) := ⟨⟨by decide +kernel, by decide +kernel⟩, List.mem_of_getElem? (i := 678) (by decide +kernel), List.mem_of_getElem? (i := 809) (by decide +kernel), List.mem_of_getElem? (i := 810) (by decide +kernel)⟩
theorem lw_p75 : lw_okq (⟨"SoundArchiveModel", "passesOf", "(I)I"⟩, 13) := ⟨⟨by decide +kernel, by decide +kernel⟩, List.mem_of_getElem? (i := 678) (by decide +kernel), List.mem_of_getElem? (i := 822) (by decide +kernel), List.mem_of_getElem? (i := 823) (by decide +kernel)⟩
theorem lw_p76 : lw_okq (⟨"SoundArchiveModel", "isOpen", "(I)Z"⟩, 13) := ⟨⟨by decide +kernel, by decide +kernel⟩, List.mem_of_getElem? (i := 678) (by decide +kernel), List.mem_of_getElem? (i := 842) (by decide +kernel), List.mem_of_getElem? (i := 843) (by decide +kernel)⟩
theorem lw_p77 : lw_okq (⟨"SoundArchiveModel", "inState", "(I)I"⟩, 13) := ⟨⟨by decide +kernel, by decide +kernel⟩, List.mem_of_getElem? (i := 678) (by decide +kernel), List.mem_of_getElem? (i := 850) (by decide +kernel), List.mem_of_getElem? (i := 851) (by decide +kernel)⟩
theorem lw_p78 : lw_okq (⟨"SoundArchiveModel", "answers", "(IZ)I"⟩, 13) := ⟨⟨by decide +kernel, by decide +kernel⟩, List.mem_of_getElem? (i := 678) (by decide +kernel), List.mem_of_getElem? (i := 858) (by decide +kernel), List.mem_of_getElem? (i := 859) (by decide +kernel)⟩
theorem lw_p79 : lw_okq (⟨"SoundArchiveModel", "bestFor", "(I)I"⟩, 13) := ⟨⟨by decide +kernel, by decide +kernel⟩, List.mem_of_getElem? (i := 678) (by decide +kernel), List.mem_of_getElem? (i := 862) (by decide +kernel), List.mem_of_getElem? (i := 863) (by decide +kernel)⟩
def lw_privs_5 : List (MethodName × Nat) := [(⟨"SoundArchiveModel", "isOne", "(II)Z"⟩, 13), (⟨"SoundArchiveModel", "isExcerpt", "(III)Z"⟩, 13), (⟨"SoundArchiveModel", "plays", "(IIIIZ)I"⟩, 13), (⟨"SoundArchiveModel", "errorOf", "(IIII)I"⟩, 13), (⟨"SoundArchiveModel", "hasSpeed", "(II)Z"⟩, 13), (⟨"SoundArchiveModel", "reasonAgainst", "(IIII)I"⟩, 13), (⟨"SoundArchiveModel", "playsFor", "(II)I"⟩, 13), (⟨"SoundArchiveModel", "timeOf", "(II)I"⟩, 13), (⟨"SoundArchiveModel", "hears", "(IIII)Z"⟩, 13), (⟨"SoundArchiveModel", "captureOf", "(IIIII)I"⟩, 13), (⟨"SoundArchiveModel", "readBy", "(IIII)I"⟩, 13), (⟨"SoundArchiveModel", "passesOf", "(I)I"⟩, 13), (⟨"SoundArchiveModel", "isOpen", "(I)Z"⟩, 13), (⟨"SoundArchiveModel", "inState", "(I)I"⟩, 13), (⟨"SoundArchiveModel", "answers", "(IZ)I"⟩, 13), (⟨"SoundArchiveModel", "bestFor", "(I)I"⟩, 13)]
theorem lw_r5 : ∀ q ∈ lw_privs_5, lw_okq q := List.forall_mem_cons.mpr ⟨lw_p64, List.forall_mem_cons.mpr ⟨lw_p65, List.forall_mem_cons.mpr ⟨lw_p66, List.forall_mem_cons.mpr ⟨lw_p67, List.forall_mem_cons.mpr ⟨lw_p68, List.forall_mem_cons.mpr ⟨lw_p69, List.forall_mem_cons.mpr ⟨lw_p70, List.forall_mem_cons.mpr ⟨lw_p71, List.forall_mem_cons.mpr ⟨lw_p72, List.forall_mem_cons.mpr ⟨lw_p73, List.forall_mem_cons.mpr ⟨lw_p74, List.forall_mem_cons.mpr ⟨lw_p75, List.forall_mem_cons.mpr ⟨lw_p76, List.forall_mem_cons.mpr ⟨lw_p77, List.forall_mem_cons.mpr ⟨lw_p78, List.forall_mem_cons.mpr ⟨lw_p79, fun _ h => absurd h List.not_mem_nil⟩⟩⟩⟩⟩⟩⟩⟩⟩⟩⟩⟩⟩⟩⟩⟩
theorem lw_p80 : lw_okq (⟨"SoundArchiveModel", "qualityIn", "(II)I"⟩, 13) := ⟨⟨by decide +kernel, by decide +kernel⟩, List.mem_of_getElem? (i := 678) (by decide +kernel), List.mem_of_getElem? (i := 866) (by decide +kernel), List.mem_of_getElem? (i := 867) (by decide +kernel)⟩
theorem lw_p81 : lw_okq (⟨"SoundArchiveModel", "reasonAgainstAnswer", "(II)I"⟩, 13) := ⟨⟨by decide +kernel, by decide +kernel⟩, List.mem_of_getElem? (i := 678) (by decide +kernel), List.mem_of_getElem? (i := 873) (by decide +kernel), List.mem_of_getElem? (i := 874) (by decide +kernel)⟩
theorem lw_p82 : lw_okq (⟨"SoundArchiveModel", "lacks", "(IIIII)I"⟩, 13) := ⟨⟨by decide +kernel, by decide +kernel⟩, List.mem_of_getElem? (i := 678) (by decide +kernel), List.mem_of_getElem? (i := 877) (by decide +kernel), List.mem_of_getElem? (i := 878) (by decide +kernel)⟩
theorem lw_p83 : lw_okq (⟨"SoundArchiveModel", "shared", "(IIIII)I"⟩, 13) := ⟨⟨by decide +kernel, by decide +kernel⟩, List.mem_of_getElem? (i := 678) (by decide +kernel), List.mem_of_getElem? (i := 881) (by decide +kernel), List.mem_of_getElem? (i := 882) (by decide +kernel)⟩
theorem lw_p84 : lw_okq (⟨"SoundArchiveModel", "isPermitted", "(III)Z"⟩, 13) := ⟨⟨by decide +kernel, by decide +kernel⟩, List.mem_of_getElem? (i := 678) (by decide +kernel), List.mem_of_getElem? (i := 885) (by decide +kernel), List.mem_of_getElem? (i := 886) (by decide +kernel)⟩
theorem lw_p85 : lw_okq (⟨"SoundArchiveModel", "goesBy", "(IZ)I"⟩, 13) := ⟨⟨by decide +kernel, by decide +kernel⟩, List.mem_of_getElem? (i := 678) (by decide +kernel), List.mem_of_getElem? (i := 896) (by decide +kernel), List.mem_of_getElem? (i := 897) (by decide +kernel)⟩
theorem lw_p86 : lw_okq (⟨"SoundArchiveModel", "isGood", "()Z"⟩, 13) := ⟨⟨by decide +kernel, by decide +kernel⟩, List.mem_of_getElem? (i := 678) (by decide +kernel), List.mem_of_getElem? (i := 912) (by decide +kernel), List.mem_of_getElem? (i := 913) (by decide +kernel)⟩
theorem lw_p87 : lw_okq (⟨"SoundArchiveModel", "readAct", "()Z"⟩, 13) := ⟨⟨by decide +kernel, by decide +kernel⟩, List.mem_of_getElem? (i := 678) (by decide +kernel), List.mem_of_getElem? (i := 916) (by decide +kernel), List.mem_of_getElem? (i := 917) (by decide +kernel)⟩
theorem lw_p88 : lw_okq (⟨"SoundArchiveModel", "letter", "(I)Z"⟩, 13) := ⟨⟨by decide +kernel, by decide +kernel⟩, List.mem_of_getElem? (i := 678) (by decide +kernel), List.mem_of_getElem? (i := 920) (by decide +kernel), List.mem_of_getElem? (i := 921) (by decide +kernel)⟩
theorem lw_p89 : lw_okq (⟨"SoundArchiveModel", "number", "(III)Z"⟩, 13) := ⟨⟨by decide +kernel, by decide +kernel⟩, List.mem_of_getElem? (i := 678) (by decide +kernel), List.mem_of_getElem? (i := 924) (by decide +kernel), List.mem_of_getElem? (i := 925) (by decide +kernel)⟩
theorem lw_p90 : lw_okq (⟨"SoundArchiveModel", "doAct", "()I"⟩, 13) := ⟨⟨by decide +kernel, by decide +kernel⟩, List.mem_of_getElem? (i := 678) (by decide +kernel), List.mem_of_getElem? (i := 932) (by decide +kernel), List.mem_of_getElem? (i := 933) (by decide +kernel)⟩
theorem lw_p91 : lw_okq (⟨"SoundArchiveModel", "errorOfExcerpt", "(IIIII)I"⟩, 13) := ⟨⟨by decide +kernel, by decide +kernel⟩, List.mem_of_getElem? (i := 678) (by decide +kernel), List.mem_of_getElem? (i := 992) (by decide +kernel), List.mem_of_getElem? (i := 993) (by decide +kernel)⟩
theorem lw_p92 : lw_okq (⟨"SoundArchiveModel", "feeFor", "(IIIII)I"⟩, 13) := ⟨⟨by decide +kernel, by decide +kernel⟩, List.mem_of_getElem? (i := 678) (by decide +kernel), List.mem_of_getElem? (i := 1000) (by decide +kernel), List.mem_of_getElem? (i := 1001) (by decide +kernel)⟩
theorem lw_p93 : lw_okq (⟨"SoundArchiveModel", "isAhead", "(II)Z"⟩, 13) := ⟨⟨by decide +kernel, by decide +kernel⟩, List.mem_of_getElem? (i := 678) (by decide +kernel), List.mem_of_getElem? (i := 1016) (by decide +kernel), List.mem_of_getElem? (i := 1017) (by decide +kernel)⟩
theorem lw_p94 : lw_okq (⟨"SoundArchiveModel", "speedOfPass", "(II)I"⟩, 13) := ⟨⟨by decide +kernel, by decide +kernel⟩, List.mem_of_getElem? (i := 678) (by decide +kernel), List.mem_of_getElem? (i := 1036) (by decide +kernel), List.mem_of_getElem? (i := 1037) (by decide +kernel)⟩
theorem lw_p95 : lw_okq (⟨"SoundArchiveModel", "areCovered", "(II)Z"⟩, 13) := ⟨⟨by decide +kernel, by decide +kernel⟩, List.mem_of_getElem? (i := 678) (by decide +kernel), List.mem_of_getElem? (i := 1044) (by decide +kernel), List.mem_of_getElem? (i := 1045) (by decide +kernel)⟩
def lw_privs_6 : List (MethodName × Nat) := [(⟨"SoundArchiveModel", "qualityIn", "(II)I"⟩, 13), (⟨"SoundArchiveModel", "reasonAgainstAnswer", "(II)I"⟩, 13), (⟨"SoundArchiveModel", "lacks", "(IIIII)I"⟩, 13), (⟨"SoundArchiveModel", "shared", "(IIIII)I"⟩, 13), (⟨"SoundArchiveModel", "isPermitted", "(III)Z"⟩, 13), (⟨"SoundArchiveModel", "goesBy", "(IZ)I"⟩, 13), (⟨"SoundArchiveModel", "isGood", "()Z"⟩, 13), (⟨"SoundArchiveModel", "readAct", "()Z"⟩, 13), (⟨"SoundArchiveModel", "letter", "(I)Z"⟩, 13), (⟨"SoundArchiveModel", "number", "(III)Z"⟩, 13), (⟨"SoundArchiveModel", "doAct", "()I"⟩, 13), (⟨"SoundArchiveModel", "errorOfExcerpt", "(IIIII)I"⟩, 13), (⟨"SoundArchiveModel", "feeFor", "(IIIII)I"⟩, 13), (⟨"SoundArchiveModel", "isAhead", "(II)Z"⟩, 13), (⟨"SoundArchiveModel", "speedOfPass", "(II)I"⟩, 13), (⟨"SoundArchiveModel", "areCovered", "(II)Z"⟩, 13)]
theorem lw_r6 : ∀ q ∈ lw_privs_6, lw_okq q := List.forall_mem_cons.mpr ⟨lw_p80, List.forall_mem_cons.mpr ⟨lw_p81, List.forall_mem_cons.mpr ⟨lw_p82, List.forall_mem_cons.mpr ⟨lw_p83, List.forall_mem_cons.mpr ⟨lw_p84, List.forall_mem_cons.mpr ⟨lw_p85, List.forall_mem_cons.mpr ⟨lw_p86, List.forall_mem_cons.mpr ⟨lw_p87, List.forall_mem_cons.mpr ⟨lw_p88, List.forall_mem_cons.mpr ⟨lw_p89, List.forall_mem_cons.mpr ⟨lw_p90, List.forall_mem_cons.mpr ⟨lw_p91, List.forall_mem_cons.mpr ⟨lw_p92, List.forall_mem_cons.mpr ⟨lw_p93, List.forall_mem_cons.mpr ⟨lw_p94, List.forall_mem_cons.mpr ⟨lw_p95, fun _ h => absurd h List.not_mem_nil⟩⟩⟩⟩⟩⟩⟩⟩⟩⟩⟩⟩⟩⟩⟩⟩
def lw_privs : List (MethodName × Nat) := lw_privs_1 ++ (lw_privs_2 ++ (lw_privs_3 ++ (lw_privs_4 ++ (lw_privs_5 ++ (lw_privs_6)))))
def lw_tbl : List Cond := k2_sels lw_privs ++ tables_1
theorem lw_privs_ok : ∀ q ∈ lw_privs, lw_okq q := by
  show ∀ q ∈ lw_privs_1 ++ (lw_privs_2 ++ (lw_privs_3 ++ (lw_privs_4 ++ (lw_privs_5 ++ (lw_privs_6))))), lw_okq q
  exact List.forall_mem_append.mpr ⟨lw_r1, List.forall_mem_append.mpr ⟨lw_r2, List.forall_mem_append.mpr ⟨lw_r3, List.forall_mem_append.mpr ⟨lw_r4, List.forall_mem_append.mpr ⟨lw_r5, lw_r6⟩⟩⟩⟩⟩
-- ===== end of PART A; then your names; then what follows =====
end
section
/-! ===== END ===== -/

/-! ===== BEGIN printed: names, fields, word lists, decode rows ===== -/
def RX0 : String := "SoundArchive$Cover"
def TX0 : u_T := fun k => match k with
  | 0 => ("SoundArchive$Cover", "needs", "[I", true)
  | 1 => ("SoundArchive$Cover", "offers", "[I", true)
  | 2 => ("SoundArchive$Cover", "fewest", "[I", true)
  | 3 => ("SoundArchive$Cover", "needCount", "I", false)
  | _ => ("SoundArchive$Cover", "offerCount", "I", false)
def tyX0 : Nat → FieldType := fun k => match k with
  | 0 => .array .int
  | 1 => .array .int
  | 2 => .array .int
  | 3 => .int
  | _ => .int
abbrev wsX00 : List Cond := u_ws RX0 TX0 5
theorem nmX0 : ∀ a, a < 5 → ∀ b, b < 5 → a ≠ b → (TX0 a).2.1 ≠ (TX0 b).2.1 := by decide +kernel
theorem tyX0_ok : ∀ k, k < 5 → parseFieldDescriptor (TX0 k).2.2.1 = some (tyX0 k) := by decide +kernel
abbrev cX0_init : ByteArray := prog_2_method_1_code
def yX0_init : MethodName := ⟨RX0, "<init>", "()V"⟩
abbrev cX0_clear : ByteArray := prog_2_method_2_code
def yX0_clear : MethodName := ⟨RX0, "clear", "()V"⟩
abbrev cX0_addNeed : ByteArray := prog_2_method_3_code
def yX0_addNeed : MethodName := ⟨RX0, "addNeed", "(I)V"⟩
abbrev cX0_addOffer : ByteArray := prog_2_method_4_code
def yX0_addOffer : MethodName := ⟨RX0, "addOffer", "(I)V"⟩
abbrev cX0_findFewest : ByteArray := prog_2_method_5_code
def yX0_findFewest : MethodName := ⟨RX0, "findFewest", "()I"⟩
abbrev cX0_fewestFor : ByteArray := prog_2_method_6_code
def yX0_fewestFor : MethodName := ⟨RX0, "fewestFor", "(I)I"⟩
def RX1 : String := "SoundArchive$History"
def TX1 : u_T := fun k => match k with
  | 0 => ("SoundArchive$History", "states", "[LSoundArchive$State;", true)
  | 1 => ("SoundArchive$History", "end", "I", false)
  | _ => ("SoundArchive$History", "size", "I", false)
def tyX1 : Nat → FieldType := fun k => match k with
  | 0 => .array (.object "SoundArchive$State")
  | 1 => .int
  | _ => .int
abbrev wsX10 : List Cond := u_ws RX1 TX1 3
theorem nmX1 : ∀ a, a < 3 → ∀ b, b < 3 → a ≠ b → (TX1 a).2.1 ≠ (TX1 b).2.1 := by decide +kernel
theorem tyX1_ok : ∀ k, k < 3 → parseFieldDescriptor (TX1 k).2.2.1 = some (tyX1 k) := by decide +kernel
abbrev cX1_init : ByteArray := prog_3_method_1_code
def yX1_init : MethodName := ⟨RX1, "<init>", "()V"⟩
abbrev cX1_stateAt : ByteArray := prog_3_method_2_code
def yX1_stateAt : MethodName := ⟨RX1, "stateAt", "(I)LSoundArchive$State;"⟩
abbrev cX1_keep : ByteArray := prog_3_method_3_code
def yX1_keep : MethodName := ⟨RX1, "keep", "(LSoundArchive$State;)V"⟩
abbrev cX1_takeBack : ByteArray := prog_3_method_4_code
def yX1_takeBack : MethodName := ⟨RX1, "takeBack", "(LSoundArchive$State;)V"⟩
def RX2 : String := "SoundArchive$Kinds"
def TX2 : u_T := fun k => match k with
  | _ => ("", "", "", false)
def tyX2 : Nat → FieldType := fun k => match k with
  | _ => .int
abbrev wsX20 : List Cond := u_ws RX2 TX2 0
theorem nmX2 : ∀ a, a < 0 → ∀ b, b < 0 → a ≠ b → (TX2 a).2.1 ≠ (TX2 b).2.1 := by decide +kernel
theorem tyX2_ok : ∀ k, k < 0 → parseFieldDescriptor (TX2 k).2.2.1 = some (tyX2 k) := by decide +kernel
abbrev cX2_speedOf : ByteArray := prog_4_method_2_code
def yX2_speedOf : MethodName := ⟨RX2, "speedOf", "(II)I"⟩
abbrev cX2_numberOfSpeed : ByteArray := prog_4_method_3_code
def yX2_numberOfSpeed : MethodName := ⟨RX2, "numberOfSpeed", "(II)I"⟩
abbrev cX2_allSpeeds : ByteArray := prog_4_method_4_code
def yX2_allSpeeds : MethodName := ⟨RX2, "allSpeeds", "(I)I"⟩
abbrev cX2_hasLayout : ByteArray := prog_4_method_5_code
def yX2_hasLayout : MethodName := ⟨RX2, "hasLayout", "(II)Z"⟩
def RX3 : String := "SoundArchive$Layouts"
def TX3 : u_T := fun k => match k with
  | _ => ("", "", "", false)
def tyX3 : Nat → FieldType := fun k => match k with
  | _ => .int
abbrev wsX30 : List Cond := u_ws RX3 TX3 0
theorem nmX3 : ∀ a, a < 0 → ∀ b, b < 0 → a ≠ b → (TX3 a).2.1 ≠ (TX3 b).2.1 := by decide +kernel
theorem tyX3_ok : ∀ k, k < 0 → parseFieldDescriptor (TX3 k).2.2.1 = some (tyX3 k) := by decide +kernel
abbrev cX3_countTracks : ByteArray := prog_5_method_2_code
def yX3_countTracks : MethodName := ⟨RX3, "countTracks", "(I)I"⟩
abbrev cX3_stripsOfTrack : ByteArray := prog_5_method_3_code
def yX3_stripsOfTrack : MethodName := ⟨RX3, "stripsOfTrack", "(II)I"⟩
abbrev cX3_tracksOfSide : ByteArray := prog_5_method_4_code
def yX3_tracksOfSide : MethodName := ⟨RX3, "tracksOfSide", "(II)I"⟩
abbrev cX3_sideOfSet : ByteArray := prog_5_method_5_code
def yX3_sideOfSet : MethodName := ⟨RX3, "sideOfSet", "(II)I"⟩
abbrev cX3_mostRead : ByteArray := prog_5_method_6_code
def yX3_mostRead : MethodName := ⟨RX3, "mostRead", "(III)I"⟩
abbrev cX3_mirrored : ByteArray := prog_5_method_7_code
def yX3_mirrored : MethodName := ⟨RX3, "mirrored", "(I)I"⟩
def RX4 : String := "SoundArchive$Slot"
def TX4 : u_T := fun k => match k with
  | 0 => ("SoundArchive$Slot", "state", "LSoundArchive$State;", true)
  | _ => ("SoundArchive$Slot", "isFilled", "Z", false)
def tyX4 : Nat → FieldType := fun k => match k with
  | 0 => .object "SoundArchive$State"
  | _ => .boolean
abbrev wsX40 : List Cond := u_ws RX4 TX4 2
theorem nmX4 : ∀ a, a < 2 → ∀ b, b < 2 → a ≠ b → (TX4 a).2.1 ≠ (TX4 b).2.1 := by decide +kernel
theorem tyX4_ok : ∀ k, k < 2 → parseFieldDescriptor (TX4 k).2.2.1 = some (tyX4 k) := by decide +kernel
abbrev cX4_init : ByteArray := prog_6_method_1_code
def yX4_init : MethodName := ⟨RX4, "<init>", "()V"⟩
def RX5 : String := "SoundArchive$State"
def TX5 : u_T := fun k => match k with
  | 0 => ("SoundArchive$State", "carriers", "LSoundArchive$Table;", true)
  | 1 => ("SoundArchive$State", "machines", "LSoundArchive$Table;", true)
  | 2 => ("SoundArchive$State", "recordings", "LSoundArchive$Table;", true)
  | 3 => ("SoundArchive$State", "parts", "LSoundArchive$Table;", true)
  | 4 => ("SoundArchive$State", "passes", "LSoundArchive$Table;", true)
  | 5 => ("SoundArchive$State", "permissions", "LSoundArchive$Table;", true)
  | 6 => ("SoundArchive$State", "requests", "LSoundArchive$Table;", true)
  | 7 => ("SoundArchive$State", "persons", "LSoundArchive$Table;", true)
  | 8 => ("SoundArchive$State", "today", "I", false)
  | _ => ("SoundArchive$State", "reason", "I", false)
def tyX5 : Nat → FieldType := fun k => match k with
  | 0 => .object "SoundArchive$Table"
  | 1 => .object "SoundArchive$Table"
  | 2 => .object "SoundArchive$Table"
  | 3 => .object "SoundArchive$Table"
  | 4 => .object "SoundArchive$Table"
  | 5 => .object "SoundArchive$Table"
  | 6 => .object "SoundArchive$Table"
  | 7 => .object "SoundArchive$Table"
  | 8 => .int
  | _ => .int
abbrev wsX50 : List Cond := u_ws RX5 TX5 10
theorem nmX5 : ∀ a, a < 10 → ∀ b, b < 10 → a ≠ b → (TX5 a).2.1 ≠ (TX5 b).2.1 := by decide +kernel
theorem tyX5_ok : ∀ k, k < 10 → parseFieldDescriptor (TX5 k).2.2.1 = some (tyX5 k) := by decide +kernel
abbrev cX5_init : ByteArray := prog_7_method_1_code
def yX5_init : MethodName := ⟨RX5, "<init>", "()V"⟩
abbrev cX5_copyFrom : ByteArray := prog_7_method_2_code
def yX5_copyFrom : MethodName := ⟨RX5, "copyFrom", "(LSoundArchive$State;)V"⟩
def RX6 : String := "SoundArchive$Table"
def TX6 : u_T := fun k => match k with
  | 0 => ("SoundArchive$Table", "cells", "[I", true)
  | 1 => ("SoundArchive$Table", "columns", "I", true)
  | _ => ("SoundArchive$Table", "rows", "I", false)
def tyX6 : Nat → FieldType := fun k => match k with
  | 0 => .array .int
  | 1 => .int
  | _ => .int
abbrev wsX60 : List Cond := u_ws RX6 TX6 3
theorem nmX6 : ∀ a, a < 3 → ∀ b, b < 3 → a ≠ b → (TX6 a).2.1 ≠ (TX6 b).2.1 := by decide +kernel
theorem tyX6_ok : ∀ k, k < 3 → parseFieldDescriptor (TX6 k).2.2.1 = some (tyX6 k) := by decide +kernel
abbrev cX6_init : ByteArray := prog_8_method_1_code
def yX6_init : MethodName := ⟨RX6, "<init>", "(II)V"⟩
abbrev cX6_has : ByteArray := prog_8_method_2_code
def yX6_has : MethodName := ⟨RX6, "has", "(I)Z"⟩
abbrev cX6_isFull : ByteArray := prog_8_method_3_code
def yX6_isFull : MethodName := ⟨RX6, "isFull", "()Z"⟩
abbrev cX6_addRow : ByteArray := prog_8_method_4_code
def yX6_addRow : MethodName := ⟨RX6, "addRow", "()I"⟩
abbrev cX6_get : ByteArray := prog_8_method_5_code
def yX6_get : MethodName := ⟨RX6, "get", "(II)I"⟩
abbrev cX6_set : ByteArray := prog_8_method_6_code
def yX6_set : MethodName := ⟨RX6, "set", "(III)V"⟩
abbrev cX6_add : ByteArray := prog_8_method_7_code
def yX6_add : MethodName := ⟨RX6, "add", "(III)V"⟩
abbrev cX6_countOf : ByteArray := prog_8_method_8_code
def yX6_countOf : MethodName := ⟨RX6, "countOf", "(II)I"⟩
abbrev cX6_copyFrom : ByteArray := prog_8_method_9_code
def yX6_copyFrom : MethodName := ⟨RX6, "copyFrom", "(LSoundArchive$Table;)V"⟩
def RX7 : String := "SoundArchive$Text"
def TX7 : u_T := fun k => match k with
  | 0 => ("SoundArchive$Text", "bytes", "[I", true)
  | 1 => ("SoundArchive$Text", "numbers", "[I", true)
  | _ => ("SoundArchive$Text", "length", "I", false)
def tyX7 : Nat → FieldType := fun k => match k with
  | 0 => .array .int
  | 1 => .array .int
  | _ => .int
abbrev wsX70 : List Cond := u_ws RX7 TX7 3
theorem nmX7 : ∀ a, a < 3 → ∀ b, b < 3 → a ≠ b → (TX7 a).2.1 ≠ (TX7 b).2.1 := by decide +kernel
theorem tyX7_ok : ∀ k, k < 3 → parseFieldDescriptor (TX7 k).2.2.1 = some (tyX7 k) := by decide +kernel
abbrev cX7_init : ByteArray := prog_9_method_1_code
def yX7_init : MethodName := ⟨RX7, "<init>", "()V"⟩
abbrev cX7_put : ByteArray := prog_9_method_2_code
def yX7_put : MethodName := ⟨RX7, "put", "(I)Z"⟩
abbrev cX7_byteAt : ByteArray := prog_9_method_3_code
def yX7_byteAt : MethodName := ⟨RX7, "byteAt", "(I)I"⟩
abbrev cX7_number : ByteArray := prog_9_method_4_code
def yX7_number : MethodName := ⟨RX7, "number", "(I)I"⟩
abbrev cX7_faultAt : ByteArray := prog_9_method_5_code
def yX7_faultAt : MethodName := ⟨RX7, "faultAt", "(I)I"⟩
abbrev cX7_findFault : ByteArray := prog_9_method_6_code
def yX7_findFault : MethodName := ⟨RX7, "findFault", "()I"⟩
abbrev cX7_readAct : ByteArray := prog_9_method_7_code
def yX7_readAct : MethodName := ⟨RX7, "readAct", "(I)I"⟩
abbrev cX7_readEnd : ByteArray := prog_9_method_8_code
def yX7_readEnd : MethodName := ⟨RX7, "readEnd", "(I)I"⟩
abbrev cX7_readNumber : ByteArray := prog_9_method_9_code
def yX7_readNumber : MethodName := ⟨RX7, "readNumber", "(IIIII)I"⟩
abbrev cX7_endOfDigits : ByteArray := prog_9_method_10_code
def yX7_endOfDigits : MethodName := ⟨RX7, "endOfDigits", "(I)I"⟩
abbrev cX7_valueOfDigits : ByteArray := prog_9_method_11_code
def yX7_valueOfDigits : MethodName := ⟨RX7, "valueOfDigits", "(II)I"⟩
def RX8 : String := "SoundArchive"
def TX8 : u_T := fun k => match k with
  | 0 => ("SoundArchive", "now", "LSoundArchive$State;", true)
  | 1 => ("SoundArchive", "history", "LSoundArchive$History;", true)
  | 2 => ("SoundArchive", "firstSlot", "LSoundArchive$Slot;", true)
  | 3 => ("SoundArchive", "secondSlot", "LSoundArchive$Slot;", true)
  | 4 => ("SoundArchive", "text", "LSoundArchive$Text;", true)
  | 5 => ("SoundArchive", "cover", "LSoundArchive$Cover;", true)
  | _ => ("SoundArchive", "plan", "[I", true)
def tyX8 : Nat → FieldType := fun k => match k with
  | 0 => .object "SoundArchive$State"
  | 1 => .object "SoundArchive$History"
  | 2 => .object "SoundArchive$Slot"
  | 3 => .object "SoundArchive$Slot"
  | 4 => .object "SoundArchive$Text"
  | 5 => .object "SoundArchive$Cover"
  | _ => .array .int
abbrev wsX80 : List Cond := u_ws RX8 TX8 7
theorem nmX8 : ∀ a, a < 7 → ∀ b, b < 7 → a ≠ b → (TX8 a).2.1 ≠ (TX8 b).2.1 := by decide +kernel
theorem tyX8_ok : ∀ k, k < 7 → parseFieldDescriptor (TX8 k).2.2.1 = some (tyX8 k) := by decide +kernel
abbrev cX8_init : ByteArray := prog_1_method_1_code
def yX8_init : MethodName := ⟨RX8, "<init>", "()V"⟩
abbrev cX8_addCarrier : ByteArray := prog_1_method_2_code
def yX8_addCarrier : MethodName := ⟨RX8, "addCarrier", "(IIIII)I"⟩
abbrev cX8_addMachine : ByteArray := prog_1_method_3_code
def yX8_addMachine : MethodName := ⟨RX8, "addMachine", "(IIII)I"⟩
abbrev cX8_addRecording : ByteArray := prog_1_method_4_code
def yX8_addRecording : MethodName := ⟨RX8, "addRecording", "(IIII)I"⟩
abbrev cX8_addPart : ByteArray := prog_1_method_5_code
def yX8_addPart : MethodName := ⟨RX8, "addPart", "(IIIII)I"⟩
abbrev cX8_transfer : ByteArray := prog_1_method_6_code
def yX8_transfer : MethodName := ⟨RX8, "transfer", "(IIII)I"⟩
abbrev cX8_permit : ByteArray := prog_1_method_7_code
def yX8_permit : MethodName := ⟨RX8, "permit", "(IIII)I"⟩
abbrev cX8_revoke : ByteArray := prog_1_method_8_code
def yX8_revoke : MethodName := ⟨RX8, "revoke", "(I)I"⟩
abbrev cX8_request : ByteArray := prog_1_method_9_code
def yX8_request : MethodName := ⟨RX8, "request", "(IIIIII)I"⟩
abbrev cX8_setDue : ByteArray := prog_1_method_10_code
def yX8_setDue : MethodName := ⟨RX8, "setDue", "(II)I"⟩
abbrev cX8_withdraw : ByteArray := prog_1_method_11_code
def yX8_withdraw : MethodName := ⟨RX8, "withdraw", "(I)I"⟩
abbrev cX8_answer : ByteArray := prog_1_method_12_code
def yX8_answer : MethodName := ⟨RX8, "answer", "(I)I"⟩
abbrev cX8_passDays : ByteArray := prog_1_method_13_code
def yX8_passDays : MethodName := ⟨RX8, "passDays", "(I)I"⟩
abbrev cX8_append : ByteArray := prog_1_method_14_code
def yX8_append : MethodName := ⟨RX8, "append", "(I)I"⟩
abbrev cX8_clearText : ByteArray := prog_1_method_15_code
def yX8_clearText : MethodName := ⟨RX8, "clearText", "()I"⟩
abbrev cX8_faultPosition : ByteArray := prog_1_method_16_code
def yX8_faultPosition : MethodName := ⟨RX8, "faultPosition", "()I"⟩
abbrev cX8_run : ByteArray := prog_1_method_17_code
def yX8_run : MethodName := ⟨RX8, "run", "()I"⟩
abbrev cX8_undo : ByteArray := prog_1_method_18_code
def yX8_undo : MethodName := ⟨RX8, "undo", "()I"⟩
abbrev cX8_save : ByteArray := prog_1_method_19_code
def yX8_save : MethodName := ⟨RX8, "save", "(I)I"⟩
abbrev cX8_restore : ByteArray := prog_1_method_20_code
def yX8_restore : MethodName := ⟨RX8, "restore", "(I)I"⟩
abbrev cX8_carrier : ByteArray := prog_1_method_21_code
def yX8_carrier : MethodName := ⟨RX8, "carrier", "(II)I"⟩
abbrev cX8_machine : ByteArray := prog_1_method_22_code
def yX8_machine : MethodName := ⟨RX8, "machine", "(II)I"⟩
abbrev cX8_recording : ByteArray := prog_1_method_23_code
def yX8_recording : MethodName := ⟨RX8, "recording", "(II)I"⟩
abbrev cX8_part : ByteArray := prog_1_method_24_code
def yX8_part : MethodName := ⟨RX8, "part", "(III)I"⟩
abbrev cX8_pass : ByteArray := prog_1_method_25_code
def yX8_pass : MethodName := ⟨RX8, "pass", "(II)I"⟩
abbrev cX8_captured : ByteArray := prog_1_method_26_code
def yX8_captured : MethodName := ⟨RX8, "captured", "(II)I"⟩
abbrev cX8_quality : ByteArray := prog_1_method_27_code
def yX8_quality : MethodName := ⟨RX8, "quality", "(II)I"⟩
abbrev cX8_bestPass : ByteArray := prog_1_method_28_code
def yX8_bestPass : MethodName := ⟨RX8, "bestPass", "(I)I"⟩
abbrev cX8_permission : ByteArray := prog_1_method_29_code
def yX8_permission : MethodName := ⟨RX8, "permission", "(II)I"⟩
abbrev cX8_requested : ByteArray := prog_1_method_30_code
def yX8_requested : MethodName := ⟨RX8, "requested", "(II)I"⟩
abbrev cX8_lacking : ByteArray := prog_1_method_31_code
def yX8_lacking : MethodName := ⟨RX8, "lacking", "(IIIII)I"⟩
abbrev cX8_fee : ByteArray := prog_1_method_32_code
def yX8_fee : MethodName := ⟨RX8, "fee", "(IIIII)I"⟩
abbrev cX8_income : ByteArray := prog_1_method_33_code
def yX8_income : MethodName := ⟨RX8, "income", "(I)I"⟩
abbrev cX8_paid : ByteArray := prog_1_method_34_code
def yX8_paid : MethodName := ⟨RX8, "paid", "(I)I"⟩
abbrev cX8_next : ByteArray := prog_1_method_35_code
def yX8_next : MethodName := ⟨RX8, "next", "(I)I"⟩
abbrev cX8_total : ByteArray := prog_1_method_36_code
def yX8_total : MethodName := ⟨RX8, "total", "(I)I"⟩
abbrev cX8_heard : ByteArray := prog_1_method_37_code
def yX8_heard : MethodName := ⟨RX8, "heard", "(IIIII)I"⟩
abbrev cX8_duration : ByteArray := prog_1_method_38_code
def yX8_duration : MethodName := ⟨RX8, "duration", "(II)I"⟩
abbrev cX8_planned : ByteArray := prog_1_method_39_code
def yX8_planned : MethodName := ⟨RX8, "planned", "(II)I"⟩
abbrev cX8_fewestPasses : ByteArray := prog_1_method_40_code
def yX8_fewestPasses : MethodName := ⟨RX8, "fewestPasses", "(II)I"⟩
abbrev cX8_isWithin : ByteArray := prog_1_method_41_code
def yX8_isWithin : MethodName := ⟨RX8, "isWithin", "(III)Z"⟩
abbrev cX8_isPerson : ByteArray := prog_1_method_42_code
def yX8_isPerson : MethodName := ⟨RX8, "isPerson", "(I)Z"⟩
abbrev cX8_isUse : ByteArray := prog_1_method_43_code
def yX8_isUse : MethodName := ⟨RX8, "isUse", "(I)Z"⟩
abbrev cX8_isSide : ByteArray := prog_1_method_44_code
def yX8_isSide : MethodName := ⟨RX8, "isSide", "(I)Z"⟩
abbrev cX8_isStretch : ByteArray := prog_1_method_45_code
def yX8_isStretch : MethodName := ⟨RX8, "isStretch", "(III)Z"⟩
abbrev cX8_isOpen : ByteArray := prog_1_method_46_code
def yX8_isOpen : MethodName := ⟨RX8, "isOpen", "(I)Z"⟩
abbrev cX8_isSameKind : ByteArray := prog_1_method_47_code
def yX8_isSameKind : MethodName := ⟨RX8, "isSameKind", "(II)Z"⟩
abbrev cX8_hasTrack : ByteArray := prog_1_method_48_code
def yX8_hasTrack : MethodName := ⟨RX8, "hasTrack", "(II)Z"⟩
abbrev cX8_canPlay : ByteArray := prog_1_method_49_code
def yX8_canPlay : MethodName := ⟨RX8, "canPlay", "(II)Z"⟩
abbrev cX8_isTaken : ByteArray := prog_1_method_50_code
def yX8_isTaken : MethodName := ⟨RX8, "isTaken", "(IIII)Z"⟩
abbrev cX8_errorOfExcerpt : ByteArray := prog_1_method_51_code
def yX8_errorOfExcerpt : MethodName := ⟨RX8, "errorOfExcerpt", "(IIIII)I"⟩
abbrev cX8_lengthOfRecording : ByteArray := prog_1_method_52_code
def yX8_lengthOfRecording : MethodName := ⟨RX8, "lengthOfRecording", "(I)I"⟩
abbrev cX8_look : ByteArray := prog_1_method_53_code
def yX8_look : MethodName := ⟨RX8, "look", "(LSoundArchive$Table;III)I"⟩
abbrev cX8_slotOf : ByteArray := prog_1_method_54_code
def yX8_slotOf : MethodName := ⟨RX8, "slotOf", "(I)LSoundArchive$Slot;"⟩
abbrev cX8_tryPass : ByteArray := prog_1_method_55_code
def yX8_tryPass : MethodName := ⟨RX8, "tryPass", "(IIIIZ)I"⟩
abbrev cX8_refusalOfPass : ByteArray := prog_1_method_56_code
def yX8_refusalOfPass : MethodName := ⟨RX8, "refusalOfPass", "(IIII)I"⟩
abbrev cX8_makePass : ByteArray := prog_1_method_57_code
def yX8_makePass : MethodName := ⟨RX8, "makePass", "(IIII)I"⟩
abbrev cX8_tryAnswer : ByteArray := prog_1_method_58_code
def yX8_tryAnswer : MethodName := ⟨RX8, "tryAnswer", "(IZ)I"⟩
abbrev cX8_refusalOfAnswer : ByteArray := prog_1_method_59_code
def yX8_refusalOfAnswer : MethodName := ⟨RX8, "refusalOfAnswer", "(I)I"⟩
abbrev cX8_giveAnswer : ByteArray := prog_1_method_60_code
def yX8_giveAnswer : MethodName := ⟨RX8, "giveAnswer", "(I)I"⟩
abbrev cX8_tryDays : ByteArray := prog_1_method_61_code
def yX8_tryDays : MethodName := ⟨RX8, "tryDays", "(IZ)I"⟩
abbrev cX8_carryOut : ByteArray := prog_1_method_62_code
def yX8_carryOut : MethodName := ⟨RX8, "carryOut", "(I)I"⟩
abbrev cX8_captureNow : ByteArray := prog_1_method_63_code
def yX8_captureNow : MethodName := ⟨RX8, "captureNow", "(IIIII)I"⟩
abbrev cX8_tracksHeard : ByteArray := prog_1_method_64_code
def yX8_tracksHeard : MethodName := ⟨RX8, "tracksHeard", "(IIIII)I"⟩
abbrev cX8_playsOfPass : ByteArray := prog_1_method_65_code
def yX8_playsOfPass : MethodName := ⟨RX8, "playsOfPass", "(II)I"⟩
abbrev cX8_secondsOfPass : ByteArray := prog_1_method_66_code
def yX8_secondsOfPass : MethodName := ⟨RX8, "secondsOfPass", "(II)I"⟩
abbrev cX8_qualityInPass : ByteArray := prog_1_method_67_code
def yX8_qualityInPass : MethodName := ⟨RX8, "qualityInPass", "(II)I"⟩
abbrev cX8_qualityNow : ByteArray := prog_1_method_68_code
def yX8_qualityNow : MethodName := ⟨RX8, "qualityNow", "(IIII)I"⟩
abbrev cX8_findBestPass : ByteArray := prog_1_method_69_code
def yX8_findBestPass : MethodName := ⟨RX8, "findBestPass", "(I)I"⟩
abbrev cX8_makePlan : ByteArray := prog_1_method_70_code
def yX8_makePlan : MethodName := ⟨RX8, "makePlan", "(I)Z"⟩
abbrev cX8_canPlan : ByteArray := prog_1_method_71_code
def yX8_canPlan : MethodName := ⟨RX8, "canPlan", "(III)Z"⟩
abbrev cX8_improvePlan : ByteArray := prog_1_method_72_code
def yX8_improvePlan : MethodName := ⟨RX8, "improvePlan", "(ZIIII)Z"⟩
abbrev cX8_offerPasses : ByteArray := prog_1_method_73_code
def yX8_offerPasses : MethodName := ⟨RX8, "offerPasses", "(III)V"⟩
abbrev cX8_rowOfPart : ByteArray := prog_1_method_74_code
def yX8_rowOfPart : MethodName := ⟨RX8, "rowOfPart", "(II)I"⟩
abbrev cX8_isProtected : ByteArray := prog_1_method_75_code
def yX8_isProtected : MethodName := ⟨RX8, "isProtected", "(I)Z"⟩
abbrev cX8_boundSeconds : ByteArray := prog_1_method_76_code
def yX8_boundSeconds : MethodName := ⟨RX8, "boundSeconds", "(IIII)I"⟩
abbrev cX8_isPermitted : ByteArray := prog_1_method_77_code
def yX8_isPermitted : MethodName := ⟨RX8, "isPermitted", "(III)Z"⟩
abbrev cX8_partsLacking : ByteArray := prog_1_method_78_code
def yX8_partsLacking : MethodName := ⟨RX8, "partsLacking", "(IIIII)I"⟩
abbrev cX8_priceOfSecond : ByteArray := prog_1_method_79_code
def yX8_priceOfSecond : MethodName := ⟨RX8, "priceOfSecond", "(I)I"⟩
abbrev cX8_feeOfPart : ByteArray := prog_1_method_80_code
def yX8_feeOfPart : MethodName := ⟨RX8, "feeOfPart", "(IIIII)I"⟩
abbrev cX8_feeOfExcerpt : ByteArray := prog_1_method_81_code
def yX8_feeOfExcerpt : MethodName := ⟨RX8, "feeOfExcerpt", "(IIIII)I"⟩
abbrev cX8_openAheadOf : ByteArray := prog_1_method_82_code
def yX8_openAheadOf : MethodName := ⟨RX8, "openAheadOf", "(I)I"⟩
abbrev cX8_comesBefore : ByteArray := prog_1_method_83_code
def yX8_comesBefore : MethodName := ⟨RX8, "comesBefore", "(II)Z"⟩
def RX9 : String := "SoundArchiveModel"
def TX9 : u_T := fun k => match k with
  | 0 => ("SoundArchiveModel", "v", "[I", true)
  | 1 => ("SoundArchiveModel", "history", "[I", true)
  | 2 => ("SoundArchiveModel", "states", "I", false)
  | 3 => ("SoundArchiveModel", "slots", "[I", true)
  | 4 => ("SoundArchiveModel", "isKept", "[Z", true)
  | 5 => ("SoundArchiveModel", "text", "[I", true)
  | 6 => ("SoundArchiveModel", "length", "I", false)
  | 7 => ("SoundArchiveModel", "speeds", "[I", true)
  | 8 => ("SoundArchiveModel", "layouts", "[I", true)
  | 9 => ("SoundArchiveModel", "captures", "[I", true)
  | 10 => ("SoundArchiveModel", "place", "I", false)
  | 11 => ("SoundArchiveModel", "act", "I", false)
  | _ => ("SoundArchiveModel", "told", "[I", true)
def tyX9 : Nat → FieldType := fun k => match k with
  | 0 => .array .int
  | 1 => .array .int
  | 2 => .int
  | 3 => .array .int
  | 4 => .array .boolean
  | 5 => .array .int
  | 6 => .int
  | 7 => .array .int
  | 8 => .array .int
  | 9 => .array .int
  | 10 => .int
  | 11 => .int
  | _ => .array .int
abbrev wsX90 : List Cond := u_ws RX9 TX9 13
theorem nmX9 : ∀ a, a < 13 → ∀ b, b < 13 → a ≠ b → (TX9 a).2.1 ≠ (TX9 b).2.1 := by decide +kernel
theorem tyX9_ok : ∀ k, k < 13 → parseFieldDescriptor (TX9 k).2.2.1 = some (tyX9 k) := by decide +kernel
abbrev cX9_init : ByteArray := prog_11_method_1_code
def yX9_init : MethodName := ⟨RX9, "<init>", "()V"⟩
abbrev cX9_in : ByteArray := prog_11_method_3_code
def yX9_in : MethodName := ⟨RX9, "in", "(III)Z"⟩
abbrev cX9_ones : ByteArray := prog_11_method_4_code
def yX9_ones : MethodName := ⟨RX9, "ones", "(I)I"⟩
abbrev cX9_record : ByteArray := prog_11_method_5_code
def yX9_record : MethodName := ⟨RX9, "record", "()V"⟩
abbrev cX9_isOne : ByteArray := prog_11_method_6_code
def yX9_isOne : MethodName := ⟨RX9, "isOne", "(II)Z"⟩
abbrev cX9_tracksOf : ByteArray := prog_11_method_7_code
def yX9_tracksOf : MethodName := ⟨RX9, "tracksOf", "(I)I"⟩
abbrev cX9_stripsOf : ByteArray := prog_11_method_8_code
def yX9_stripsOf : MethodName := ⟨RX9, "stripsOf", "(II)I"⟩
abbrev cX9_sideOf : ByteArray := prog_11_method_9_code
def yX9_sideOf : MethodName := ⟨RX9, "sideOf", "(II)I"⟩
abbrev cX9_turned : ByteArray := prog_11_method_10_code
def yX9_turned : MethodName := ⟨RX9, "turned", "(I)I"⟩
abbrev cX9_placeOfSpeed : ByteArray := prog_11_method_11_code
def yX9_placeOfSpeed : MethodName := ⟨RX9, "placeOfSpeed", "(II)I"⟩
abbrev cX9_hasLayout : ByteArray := prog_11_method_12_code
def yX9_hasLayout : MethodName := ⟨RX9, "hasLayout", "(II)Z"⟩
abbrev cX9_hasSpeed : ByteArray := prog_11_method_13_code
def yX9_hasSpeed : MethodName := ⟨RX9, "hasSpeed", "(II)Z"⟩
abbrev cX9_addCarrier : ByteArray := prog_11_method_14_code
def yX9_addCarrier : MethodName := ⟨RX9, "addCarrier", "(IIIII)I"⟩
abbrev cX9_addMachine : ByteArray := prog_11_method_15_code
def yX9_addMachine : MethodName := ⟨RX9, "addMachine", "(IIII)I"⟩
abbrev cX9_sideOfAll : ByteArray := prog_11_method_16_code
def yX9_sideOfAll : MethodName := ⟨RX9, "sideOfAll", "(II)I"⟩
abbrev cX9_addRecording : ByteArray := prog_11_method_17_code
def yX9_addRecording : MethodName := ⟨RX9, "addRecording", "(IIII)I"⟩
abbrev cX9_isExcerpt : ByteArray := prog_11_method_18_code
def yX9_isExcerpt : MethodName := ⟨RX9, "isExcerpt", "(III)Z"⟩
abbrev cX9_addPart : ByteArray := prog_11_method_19_code
def yX9_addPart : MethodName := ⟨RX9, "addPart", "(IIIII)I"⟩
abbrev cX9_passesOf : ByteArray := prog_11_method_20_code
def yX9_passesOf : MethodName := ⟨RX9, "passesOf", "(I)I"⟩
abbrev cX9_readBy : ByteArray := prog_11_method_21_code
def yX9_readBy : MethodName := ⟨RX9, "readBy", "(IIII)I"⟩
abbrev cX9_captureOf : ByteArray := prog_11_method_22_code
def yX9_captureOf : MethodName := ⟨RX9, "captureOf", "(IIIII)I"⟩
abbrev cX9_timeOf : ByteArray := prog_11_method_23_code
def yX9_timeOf : MethodName := ⟨RX9, "timeOf", "(II)I"⟩
abbrev cX9_playsFor : ByteArray := prog_11_method_24_code
def yX9_playsFor : MethodName := ⟨RX9, "playsFor", "(II)I"⟩
abbrev cX9_hears : ByteArray := prog_11_method_25_code
def yX9_hears : MethodName := ⟨RX9, "hears", "(IIII)Z"⟩
abbrev cX9_reasonAgainst : ByteArray := prog_11_method_26_code
def yX9_reasonAgainst : MethodName := ⟨RX9, "reasonAgainst", "(IIII)I"⟩
abbrev cX9_errorOf : ByteArray := prog_11_method_27_code
def yX9_errorOf : MethodName := ⟨RX9, "errorOf", "(IIII)I"⟩
abbrev cX9_plays : ByteArray := prog_11_method_28_code
def yX9_plays : MethodName := ⟨RX9, "plays", "(IIIIZ)I"⟩
abbrev cX9_transfer : ByteArray := prog_11_method_29_code
def yX9_transfer : MethodName := ⟨RX9, "transfer", "(IIII)I"⟩
abbrev cX9_least : ByteArray := prog_11_method_30_code
def yX9_least : MethodName := ⟨RX9, "least", "([III)I"⟩
abbrev cX9_qualityIn : ByteArray := prog_11_method_31_code
def yX9_qualityIn : MethodName := ⟨RX9, "qualityIn", "(II)I"⟩
abbrev cX9_bestFor : ByteArray := prog_11_method_32_code
def yX9_bestFor : MethodName := ⟨RX9, "bestFor", "(I)I"⟩
abbrev cX9_permit : ByteArray := prog_11_method_33_code
def yX9_permit : MethodName := ⟨RX9, "permit", "(IIII)I"⟩
abbrev cX9_revoke : ByteArray := prog_11_method_34_code
def yX9_revoke : MethodName := ⟨RX9, "revoke", "(I)I"⟩
abbrev cX9_isPermitted : ByteArray := prog_11_method_35_code
def yX9_isPermitted : MethodName := ⟨RX9, "isPermitted", "(III)Z"⟩
abbrev cX9_shared : ByteArray := prog_11_method_36_code
def yX9_shared : MethodName := ⟨RX9, "shared", "(IIIII)I"⟩
abbrev cX9_lacks : ByteArray := prog_11_method_37_code
def yX9_lacks : MethodName := ⟨RX9, "lacks", "(IIIII)I"⟩
abbrev cX9_price : ByteArray := prog_11_method_38_code
def yX9_price : MethodName := ⟨RX9, "price", "(I)I"⟩
abbrev cX9_feeFor : ByteArray := prog_11_method_39_code
def yX9_feeFor : MethodName := ⟨RX9, "feeFor", "(IIIII)I"⟩
abbrev cX9_request : ByteArray := prog_11_method_40_code
def yX9_request : MethodName := ⟨RX9, "request", "(IIIIII)I"⟩
abbrev cX9_isOpen : ByteArray := prog_11_method_41_code
def yX9_isOpen : MethodName := ⟨RX9, "isOpen", "(I)Z"⟩
abbrev cX9_inState : ByteArray := prog_11_method_42_code
def yX9_inState : MethodName := ⟨RX9, "inState", "(I)I"⟩
abbrev cX9_setDue : ByteArray := prog_11_method_43_code
def yX9_setDue : MethodName := ⟨RX9, "setDue", "(II)I"⟩
abbrev cX9_withdraw : ByteArray := prog_11_method_44_code
def yX9_withdraw : MethodName := ⟨RX9, "withdraw", "(I)I"⟩
abbrev cX9_reasonAgainstAnswer : ByteArray := prog_11_method_45_code
def yX9_reasonAgainstAnswer : MethodName := ⟨RX9, "reasonAgainstAnswer", "(II)I"⟩
abbrev cX9_answers : ByteArray := prog_11_method_46_code
def yX9_answers : MethodName := ⟨RX9, "answers", "(IZ)I"⟩
abbrev cX9_answer : ByteArray := prog_11_method_47_code
def yX9_answer : MethodName := ⟨RX9, "answer", "(I)I"⟩
abbrev cX9_goesBy : ByteArray := prog_11_method_48_code
def yX9_goesBy : MethodName := ⟨RX9, "goesBy", "(IZ)I"⟩
abbrev cX9_passDays : ByteArray := prog_11_method_49_code
def yX9_passDays : MethodName := ⟨RX9, "passDays", "(I)I"⟩
abbrev cX9_append : ByteArray := prog_11_method_50_code
def yX9_append : MethodName := ⟨RX9, "append", "(I)I"⟩
abbrev cX9_clearText : ByteArray := prog_11_method_51_code
def yX9_clearText : MethodName := ⟨RX9, "clearText", "()I"⟩
abbrev cX9_letter : ByteArray := prog_11_method_52_code
def yX9_letter : MethodName := ⟨RX9, "letter", "(I)Z"⟩
abbrev cX9_number : ByteArray := prog_11_method_53_code
def yX9_number : MethodName := ⟨RX9, "number", "(III)Z"⟩
abbrev cX9_readAct : ByteArray := prog_11_method_54_code
def yX9_readAct : MethodName := ⟨RX9, "readAct", "()Z"⟩
abbrev cX9_isGood : ByteArray := prog_11_method_55_code
def yX9_isGood : MethodName := ⟨RX9, "isGood", "()Z"⟩
abbrev cX9_faultPosition : ByteArray := prog_11_method_56_code
def yX9_faultPosition : MethodName := ⟨RX9, "faultPosition", "()I"⟩
abbrev cX9_doAct : ByteArray := prog_11_method_57_code
def yX9_doAct : MethodName := ⟨RX9, "doAct", "()I"⟩
abbrev cX9_run : ByteArray := prog_11_method_58_code
def yX9_run : MethodName := ⟨RX9, "run", "()I"⟩
abbrev cX9_undo : ByteArray := prog_11_method_59_code
def yX9_undo : MethodName := ⟨RX9, "undo", "()I"⟩
abbrev cX9_save : ByteArray := prog_11_method_60_code
def yX9_save : MethodName := ⟨RX9, "save", "(I)I"⟩
abbrev cX9_restore : ByteArray := prog_11_method_61_code
def yX9_restore : MethodName := ⟨RX9, "restore", "(I)I"⟩
abbrev cX9_carrier : ByteArray := prog_11_method_62_code
def yX9_carrier : MethodName := ⟨RX9, "carrier", "(II)I"⟩
abbrev cX9_machine : ByteArray := prog_11_method_63_code
def yX9_machine : MethodName := ⟨RX9, "machine", "(II)I"⟩
abbrev cX9_recording : ByteArray := prog_11_method_64_code
def yX9_recording : MethodName := ⟨RX9, "recording", "(II)I"⟩
abbrev cX9_part : ByteArray := prog_11_method_65_code
def yX9_part : MethodName := ⟨RX9, "part", "(III)I"⟩
abbrev cX9_pass : ByteArray := prog_11_method_66_code
def yX9_pass : MethodName := ⟨RX9, "pass", "(II)I"⟩
abbrev cX9_captured : ByteArray := prog_11_method_67_code
def yX9_captured : MethodName := ⟨RX9, "captured", "(II)I"⟩
abbrev cX9_quality : ByteArray := prog_11_method_68_code
def yX9_quality : MethodName := ⟨RX9, "quality", "(II)I"⟩
abbrev cX9_bestPass : ByteArray := prog_11_method_69_code
def yX9_bestPass : MethodName := ⟨RX9, "bestPass", "(I)I"⟩
abbrev cX9_permission : ByteArray := prog_11_method_70_code
def yX9_permission : MethodName := ⟨RX9, "permission", "(II)I"⟩
abbrev cX9_requested : ByteArray := prog_11_method_71_code
def yX9_requested : MethodName := ⟨RX9, "requested", "(II)I"⟩
abbrev cX9_errorOfExcerpt : ByteArray := prog_11_method_72_code
def yX9_errorOfExcerpt : MethodName := ⟨RX9, "errorOfExcerpt", "(IIIII)I"⟩
abbrev cX9_lacking : ByteArray := prog_11_method_73_code
def yX9_lacking : MethodName := ⟨RX9, "lacking", "(IIIII)I"⟩
abbrev cX9_fee : ByteArray := prog_11_method_74_code
def yX9_fee : MethodName := ⟨RX9, "fee", "(IIIII)I"⟩
abbrev cX9_income : ByteArray := prog_11_method_75_code
def yX9_income : MethodName := ⟨RX9, "income", "(I)I"⟩
abbrev cX9_paid : ByteArray := prog_11_method_76_code
def yX9_paid : MethodName := ⟨RX9, "paid", "(I)I"⟩
abbrev cX9_isAhead : ByteArray := prog_11_method_77_code
def yX9_isAhead : MethodName := ⟨RX9, "isAhead", "(II)Z"⟩
abbrev cX9_next : ByteArray := prog_11_method_78_code
def yX9_next : MethodName := ⟨RX9, "next", "(I)I"⟩
abbrev cX9_total : ByteArray := prog_11_method_79_code
def yX9_total : MethodName := ⟨RX9, "total", "(I)I"⟩
abbrev cX9_heard : ByteArray := prog_11_method_80_code
def yX9_heard : MethodName := ⟨RX9, "heard", "(IIIII)I"⟩
abbrev cX9_duration : ByteArray := prog_11_method_81_code
def yX9_duration : MethodName := ⟨RX9, "duration", "(II)I"⟩
abbrev cX9_speedOfPass : ByteArray := prog_11_method_82_code
def yX9_speedOfPass : MethodName := ⟨RX9, "speedOfPass", "(II)I"⟩
abbrev cX9_planned : ByteArray := prog_11_method_83_code
def yX9_planned : MethodName := ⟨RX9, "planned", "(II)I"⟩
abbrev cX9_areCovered : ByteArray := prog_11_method_84_code
def yX9_areCovered : MethodName := ⟨RX9, "areCovered", "(II)Z"⟩
abbrev cX9_fewestPasses : ByteArray := prog_11_method_85_code
def yX9_fewestPasses : MethodName := ⟨RX9, "fewestPasses", "(II)I"⟩
def RJ6 : String := "java/lang/Integer"
def TJ6 : u_T := fun k => match k with
  | _ => ("", "", "", false)
def tyJ6 : Nat → FieldType := fun k => match k with
  | _ => .int
abbrev wsJ60 : List Cond := u_ws RJ6 TJ6 0
theorem nmJ6 : ∀ a, a < 0 → ∀ b, b < 0 → a ≠ b → (TJ6 a).2.1 ≠ (TJ6 b).2.1 := by decide +kernel
theorem tyJ6_ok : ∀ k, k < 0 → parseFieldDescriptor (TJ6 k).2.2.1 = some (tyJ6 k) := by decide +kernel
abbrev cJ6_bitCount_0f7a4 : ByteArray := prog_12_method_49_code
def yJ6_bitCount_0f7a4 : MethodName := ⟨RJ6, "bitCount", "(I)I"⟩
def RJ9 : String := "java/lang/Math"
def TJ9 : u_T := fun k => match k with
  | _ => ("", "", "", false)
def tyJ9 : Nat → FieldType := fun k => match k with
  | _ => .int
abbrev wsJ90 : List Cond := u_ws RJ9 TJ9 0
theorem nmJ9 : ∀ a, a < 0 → ∀ b, b < 0 → a ≠ b → (TJ9 a).2.1 ≠ (TJ9 b).2.1 := by decide +kernel
theorem tyJ9_ok : ∀ k, k < 0 → parseFieldDescriptor (TJ9 k).2.2.1 = some (tyJ9 k) := by decide +kernel
abbrev cJ9_max_7cf53 : ByteArray := prog_13_method_65_code
def yJ9_max_7cf53 : MethodName := ⟨RJ9, "max", "(II)I"⟩
abbrev cJ9_min_7cf53 : ByteArray := prog_13_method_69_code
def yJ9_min_7cf53 : MethodName := ⟨RJ9, "min", "(II)I"⟩
def RJ10 : String := "java/lang/System"
def TJ10 : u_T := fun k => match k with
  | _ => ("", "", "", false)
def tyJ10 : Nat → FieldType := fun k => match k with
  | _ => .int
abbrev wsJ100 : List Cond := u_ws RJ10 TJ10 0
theorem nmJ10 : ∀ a, a < 0 → ∀ b, b < 0 → a ≠ b → (TJ10 a).2.1 ≠ (TJ10 b).2.1 := by decide +kernel
theorem tyJ10_ok : ∀ k, k < 0 → parseFieldDescriptor (TJ10 k).2.2.1 = some (tyJ10 k) := by decide +kernel
def RL : String := "SoundArchiveLaw"
abbrev cL_law : ByteArray := code
def yL_law : MethodName := ⟨RL, "law", "([I)Z"⟩
abbrev vwCl : List vw_C := [(RX0, TX0, 5), (RX1, TX1, 3), (RX4, TX4, 2), (RX5, TX5, 10), (RX6, TX6, 3), (RX7, TX7, 3), (RX8, TX8, 7), (RX9, TX9, 13)]
def xTW : List Cond := lw_tbl.filter goodWord
theorem xTW_m {w : Cond} (h : w ∈ lw_tbl) (g : goodWord w = true) : w ∈ xTW := List.mem_filter.mpr ⟨h, g⟩
theorem xTW_g : ∀ w ∈ xTW, w ∈ xTW ∧ ((w.onTables && w.keeps) = true ∨ ∃ ty, w = .arrayClass ty) := fun w h => ⟨h, good_of_word (List.mem_filter.mp h).2⟩
theorem xin_of {ws : List Cond} (hg : ws.all goodWord = true) (ps : List Nat) (hp : ws = ps.filterMap (fun i => lw_tbl[i]?)) : ∀ w ∈ ws, w ∈ xTW := by
  intro w hw
  have hg1 := List.all_eq_true.mp hg w hw
  rw [hp] at hw
  obtain ⟨i, -, hi⟩ := List.mem_filterMap.mp hw
  exact xTW_m (List.mem_of_getElem? hi) hg1
end
section
/-! A machine state seen from above: the heap of the class and of the reference is a list of shapes sh (one cell each, at the addresses B, B + 1 ..) and a function M of cell and slot (their numbers). X says: from here the method ends, with an answer and a world that Q holds of. -/
abbrev xS : Type := (Nat × Nat × List (Option Nat)) ⊕ (Nat × List (Option (Option Nat)))
abbrev xM : Type := Nat → Nat → Int32
abbrev xD : Type := MethodName × ByteArray × Nat × Option FieldType × Nat × Nat × Nat × Nat
abbrev xX : Type := Nat × (Nat → Int32)
def xw (M : xM) (k j : Nat) (v : Int32) : xM := fun a b => if a = k ∧ b = j then v else M a b
def x_val (B : Nat) (f : Nat → Int32) (j : Nat) : Option (Option Nat) → Value
  | none => .int (f j)
  | some r => va_rf (r.map (fun q => B + q))
def x_cell (cI cZ cS : ClassId) (B : Nat) (f : Nat → Int32) : xS → va_E
  | .inl (0, n, _) => .inl (cI, n, .inl f)
  | .inl (1, n, _) => .inl (cZ, n, .inl f)
  | .inl (_, n, rs) => .inl (cS, n, .inr (.inr (.inr (.inr (fun j => ((rs[j]?).getD none).map (fun q => B + q))))))
  | .inr (ci, fs) => .inr (ci, fs.mapIdx (x_val B f))
def x_ws (cI cZ cS : ClassId) (B : Nat) (sh : List xS) (M : xM) : va_W := sh.mapIdx (fun k s => (B + k, x_cell cI cZ cS B (M k) s))
def x_g (B : Nat) (sa : UInt32 → Nat) : Value → Value
  | .ref k => .ref (B + k)
  | .float u => .ref (sa u)
  | v => v
def x_ix : Nat → List Value → List (Nat × Value)
  | _, [] => []
  | i, v :: vs => (i, v) :: x_ix (i + 1) vs
def x_hasL (B : Nat) (sa : UInt32 → Nat) (arr : Array Slot) (nL : Nat) (ls : List Value) : Prop := lv_has arr nL (x_ix 0 (ls.map (x_g B sa)))
def xNest : Cond → Bool
  | .methodLinkNest _ _ _ _ => true
  | .fieldLinkNest _ _ _ _ _ _ => true
  | .arrayOver (.object _) => true
  | _ => false
def xSp (j : Nat) : Value := .int ((([33, 45, 78, 95, 190, 380, 48, 0, 0] : List Int32)[j]?).getD 0)
def xSt (j : Nat) : Value := .int ((([15, 0, 0, 0, 3, 12, 0, 0, 1, 2, 4, 8, 1, 2, 4, 8] : List Int32)[j]?).getD 0)
def xrm (μ : xD) : Room := { frames := μ.2.2.2.2.1, cells := μ.2.2.2.2.2.2.1, slots := μ.2.2.2.2.2.2.2, locals := μ.2.2.2.2.2.1 }
def xC (μ : xD) (p : Program) (s : State) (m : MethodId) (args : Array Value) (meth : Method) (c : Code) : Prop :=
  p.tables.exec = Jvm.exec ∧ c.code = μ.2.1 ∧ meth.sig.returnType = μ.2.2.2.1 ∧ c.maxLocals = μ.2.2.1 ∧ s.vm.findClass μ.1.cls = some m.cls ∧ meth.locks = false ∧ meth.name = μ.1.name ∧ ∀ w ∈ xTW, w.before args s = true
def xE (ξ : xX) (sa : UInt32 → Nat) (A : Nat → Prop) (s : State) (H : Heap) : Prop :=
  (∀ w ∈ lw_tbl, xNest w = true → va_Nw w s) ∧ (∀ q, H.size ≤ q → A q) ∧ va_Z "SoundArchive$Kinds" "SPEEDS" "[I" (.ref (sa 1)) A s H ∧ va_T .int (sa 1) 9 xSp A s H ∧ va_Z "SoundArchive$Layouts" "STRIPS" "[I" (.ref (sa 2)) A s H ∧ va_T .int (sa 2) 16 xSt A s H ∧ va_X (sa 3) ξ.1 ξ.2 s H ∧ sa 3 < H.size ∧ ¬ A (sa 3)
abbrev x_tys (cI cZ cS : ClassId) : List (ClassId × FieldType) := [(cI, .int), (cZ, .boolean), (cS, .object "SoundArchive$State")]
def xW (dC : Nat → ClassId) (dI : Nat → Nat → Nat) (cI cZ cS : ClassId) (B : Nat) (A : Nat → Prop) (sh : List xS) (M : xM) (s : State) (H : Heap) : Prop :=
  va_K (dC, dI) vwCl (x_tys cI cZ cS) s ∧ va_P (dC, dI) vwCl (x_ws cI cZ cS B sh M) H ∧ va_D A (x_ws cI cZ cS B sh M) ∧ H.size = B + sh.length
def xQ (dC : Nat → ClassId) (dI : Nat → Nat → Nat) (cI cZ cS : ClassId) (B : Nat) (sa : UInt32 → Nat) (A : Nat → Prop) (Q : Option Value → List xS → xM → Prop) : Array Value → State → Outcome → State → Prop := fun _ st oc t =>
  (∃ (r : Option Value) (sh : List xS) (M : xM), oc = .returned (r.map (x_g B sa)) ∧ Q r sh M ∧ xW dC dI cI cZ cS B A sh M t t.heap) ∧ va_F A st t
def X (ξ : xX) (μ : xD) (pc : Nat) (ls st : List Value) (sh : List xS) (M : xM) (kc ks : Nat) (Q : Option Value → List xS → xM → Prop) : Prop :=
  ∀ (l : Launch) (dC : Nat → ClassId) (dI : Nat → Nat → Nat) (cI cZ cS : ClassId) (B : Nat) (sa : UInt32 → Nat) (A : Nat → Prop) (p : Program) (e : Env) (s : State) (m : MethodId) (args : Array Value) (below : List Frame) (meth : Method) (c : Code) (H : Heap) (locs : List Loc) (arr : Array Slot),
    xC μ p s m args meth c → xE ξ sa A s s.heap → xW dC dI cI cZ cS B A sh M s H → va_S A s.heap H locs → x_hasL B sa arr μ.2.2.1 ls →
    W p l e (xrm μ) s m args below meth c H locs kc ks (MQ below (xQ dC dI cI cZ cS B sa A Q) args s μ.2.2.2.2.2.2.1 μ.2.2.2.2.2.2.2 A) (F0 m pc arr (st.map (x_g B sa)))
theorem x_ws_len {cI cZ cS : ClassId} {B : Nat} {sh : List xS} {M : xM} : (x_ws cI cZ cS B sh M).length = sh.length := by simp [x_ws]
theorem x_ws_at {cI cZ cS : ClassId} {B : Nat} {sh : List xS} {M : xM} {k : Nat} {s : xS} (h : sh[k]? = some s) : (x_ws cI cZ cS B sh M)[k]? = some (B + k, x_cell cI cZ cS B (M k) s) := by simp [x_ws, List.getElem?_mapIdx, h]
theorem xw_ne {M : xM} {k j i : Nat} {v : Int32} (h : i ≠ k) : xw M k j v i = M i := by
  funext b
  simp [xw, h]
theorem xw_upd {M : xM} {k j : Nat} {v : Int32} : xw M k j v k = upd (M k) j v := by
  funext b
  simp [xw, upd]
theorem x_ws_set {cI cZ cS : ClassId} {B : Nat} {sh : List xS} {M M' : xM} {k : Nat} {s : xS} (h : sh[k]? = some s) (hM : ∀ i, i ≠ k → M' i = M i) {e : va_E} (he : x_cell cI cZ cS B (M' k) s = e) : (x_ws cI cZ cS B sh M).set k (B + k, e) = x_ws cI cZ cS B sh M' := by
  have hl : k < sh.length := (List.getElem?_eq_some_iff.mp h).1
  apply List.ext_getElem?
  intro i
  rw [List.getElem?_set]
  by_cases hi : k = i
  · subst hi
    rw [if_pos rfl, if_pos (by rw [x_ws_len]; exact hl), x_ws_at h, he]
  · rw [if_neg hi]
    simp only [x_ws, List.getElem?_mapIdx]
    rw [hM i (Ne.symm hi)]
theorem x_ws_setS {cI cZ cS : ClassId} {B : Nat} {sh : List xS} {M : xM} {k : Nat} {s s' : xS} (h : sh[k]? = some s) {e : va_E} (he : x_cell cI cZ cS B (M k) s' = e) : (x_ws cI cZ cS B sh M).set k (B + k, e) = x_ws cI cZ cS B (sh.set k s') M := by
  have hl : k < sh.length := (List.getElem?_eq_some_iff.mp h).1
  apply List.ext_getElem?
  intro i
  rw [List.getElem?_set]
  by_cases hi : k = i
  · subst hi
    rw [if_pos rfl, if_pos (by rw [x_ws_len]; exact hl)]
    simp only [x_ws, List.getElem?_mapIdx]
    rw [List.getElem?_set, if_pos rfl, if_pos hl]
    simp [he]
  · rw [if_neg hi]
    simp only [x_ws, List.getElem?_mapIdx]
    rw [List.getElem?_set, if_neg hi]
theorem x_ws_push {cI cZ cS : ClassId} {B : Nat} {sh : List xS} {M : xM} {s : xS} : x_ws cI cZ cS B (sh ++ [s]) M = x_ws cI cZ cS B sh M ++ [(B + sh.length, x_cell cI cZ cS B (M sh.length) s)] := by
  simp [x_ws, List.mapIdx_append]
theorem x_obj_set {B : Nat} {fs : List (Option (Option Nat))} {f : Nat → Int32} {j : Nat} {v : Int32} (hj : fs[j]? = some none) : fs.mapIdx (x_val B (upd f j v)) = (fs.mapIdx (x_val B f)).set j (.int v) := by
  have hl : j < fs.length := (List.getElem?_eq_some_iff.mp hj).1
  apply List.ext_getElem?
  intro i
  rw [List.getElem?_set]
  by_cases hi : j = i
  · subst hi
    rw [if_pos rfl, if_pos (by simpa using hl)]
    simp [List.getElem?_mapIdx, hj, x_val, upd]
  · rw [if_neg hi]
    simp only [List.getElem?_mapIdx]
    cases fs[i]? with
    | none => rfl
    | some o => cases o with
      | none => simp [x_val, upd, Ne.symm hi]
      | some r => rfl
theorem x_obj_setR {B : Nat} {fs : List (Option (Option Nat))} {f : Nat → Int32} {j : Nat} {r : Option Nat} {o : Option (Option Nat)} (hj : fs[j]? = some o) : (fs.set j (some r)).mapIdx (x_val B f) = (fs.mapIdx (x_val B f)).set j (va_rf (r.map (fun q => B + q))) := by
  have hl : j < fs.length := (List.getElem?_eq_some_iff.mp hj).1
  apply List.ext_getElem?
  intro i
  rw [List.getElem?_set]
  simp only [List.getElem?_mapIdx]
  rw [List.getElem?_set]
  by_cases hi : j = i
  · subst hi
    rw [if_pos rfl, if_pos rfl, if_pos hl, if_pos (by simpa using hl)]
    rfl
  · rw [if_neg hi, if_neg hi]
theorem x_g_cat (B : Nat) (sa : UInt32 → Nat) (v : Value) : (x_g B sa v).category = v.category := by cases v <;> rfl
theorem x_g_cats (B : Nat) (sa : UInt32 → Nat) (st : List Value) : ((st.map (x_g B sa)).map fun v => v.category) = st.map fun v => v.category := by
  rw [List.map_map]
  exact List.map_congr_left (fun v _ => x_g_cat B sa v)
theorem x_g_rf (B : Nat) (sa : UInt32 → Nat) (r : Option Nat) : x_g B sa (va_rf r) = va_rf (r.map (fun q => B + q)) := by cases r <;> rfl
theorem x_ix_at : ∀ (vs : List Value) (i k : Nat) (v : Value), vs[k]? = some v → (x_ix i vs)[k]? = some (i + k, v)
  | [], i, k, v, h => by simp at h
  | a :: vs, i, 0, v, h => by simp at h; subst h; rfl
  | a :: vs, i, k + 1, v, h => by
    have := x_ix_at vs (i + 1) k v (by simpa using h)
    simp only [x_ix, List.getElem?_cons_succ]
    rw [this]
    congr 2
    omega
theorem x_ix_mem : ∀ (vs : List Value) (i : Nat) (q : Nat × Value), q ∈ x_ix i vs → ∃ k, q.1 = i + k ∧ vs[k]? = some q.2
  | [], i, q, h => by simp [x_ix] at h
  | a :: vs, i, q, h => by
    rcases List.mem_cons.mp h with h | h
    · subst h
      exact ⟨0, rfl, rfl⟩
    · obtain ⟨k, h1, h2⟩ := x_ix_mem vs (i + 1) q h
      exact ⟨k + 1, by omega, by simpa using h2⟩
theorem x_ix_args : ∀ (vs : List Value) (i : Nat), (∀ v ∈ vs, v.category = 1) → lv_args i vs = x_ix i vs
  | [], i, _ => rfl
  | a :: vs, i, h => by
    have h1 : ¬ a.category = 2 := by rw [h a List.mem_cons_self]; decide
    simp only [lv_args, x_ix, h1, if_false]
    rw [x_ix_args vs (i + 1) (fun v hv => h v (List.mem_cons_of_mem _ hv))]
theorem x_hasL_at {B : Nat} {sa : UInt32 → Nat} {arr : Array Slot} {nL : Nat} {ls : List Value} (h : x_hasL B sa arr nL ls) {i : Nat} {v : Value} (hi : ls[i]? = some v) : arr[i]? = some (.val (x_g B sa v)) := by
  have := lv_at h i (i := i) (v := x_g B sa v) (by rw [x_ix_at (ls.map (x_g B sa)) 0 i (x_g B sa v) (by simp [hi])]; simp)
  exact this
theorem x_hasL_sz {B : Nat} {sa : UInt32 → Nat} {arr : Array Slot} {nL : Nat} {ls : List Value} (h : x_hasL B sa arr nL ls) : arr.size = nL := h.1
/-- other locals that are held too -/
theorem x_hasL_of {B : Nat} {sa : UInt32 → Nat} {arr : Array Slot} {nL : Nat} {l : List (Nat × Value)} {ls : List Value} (h : lv_has arr nL l) (hl : ∀ k v, ls[k]? = some v → (k, x_g B sa v) ∈ l) : x_hasL B sa arr nL ls := by
  refine ⟨h.1, h.2.1, fun q hq => ?_⟩
  obtain ⟨k, h1, h2⟩ := x_ix_mem _ _ _ hq
  rw [List.getElem?_map] at h2
  cases hv : ls[k]? with
  | none => rw [hv] at h2; simp at h2
  | some v =>
    rw [hv] at h2
    simp at h2
    have h3 := hl k v hv
    have h4 := h.2.2 _ h3
    have e : q = (k, x_g B sa v) := Prod.ext (by omega) h2.symm
    rw [e]
    exact h4
def x_up (ls : List Value) (i : Nat) (v : Value) : List Value := ls.take i ++ v :: ls.drop (i + 1)
theorem x_up_at {ls : List Value} {i : Nat} {v : Value} (hi : i ≤ ls.length) {k : Nat} {u : Value} (h : (x_up ls i v)[k]? = some u) : (k = i ∧ u = v) ∨ (k ≠ i ∧ ls[k]? = some u) := by
  have hlen : (ls.take i).length = i := by simp; omega
  unfold x_up at h
  rcases Nat.lt_trichotomy k i with hk | hk | hk
  · rw [List.getElem?_append_left (by omega)] at h
    rw [List.getElem?_take] at h
    rw [if_pos hk] at h
    exact Or.inr ⟨by omega, h⟩
  · subst hk
    rw [List.getElem?_append_right (by omega), hlen, Nat.sub_self] at h
    simp at h
    exact Or.inl ⟨rfl, h.symm⟩
  · rw [List.getElem?_append_right (by omega), hlen] at h
    obtain ⟨d, rfl⟩ : ∃ d, k = i + 1 + d := ⟨k - (i + 1), by omega⟩
    rw [show i + 1 + d - i = d + 1 by omega] at h
    simp at h
    exact Or.inr ⟨by omega, h⟩
theorem x_hasL_up {B : Nat} {sa : UInt32 → Nat} {arr : Array Slot} {nL : Nat} {ls : List Value} {i : Nat} {v : Value} (hi : i ≤ ls.length) (hc : ∀ u ∈ ls, u.category = 1)
    (h : lv_has arr nL ((i, x_g B sa v) :: (x_ix 0 (ls.map (x_g B sa))).filter (fun q => !(q.1 == i) && !(q.1 + 1 == i && q.2.category == 2)))) : x_hasL B sa arr nL (x_up ls i v) := by
  refine x_hasL_of h fun k u hu => ?_
  rcases x_up_at hi hu with ⟨rfl, rfl⟩ | ⟨hk, hu⟩
  · exact List.mem_cons_self
  · refine List.mem_cons_of_mem _ (List.mem_filter.mpr ⟨?_, ?_⟩)
    · have := x_ix_at (ls.map (x_g B sa)) 0 k (x_g B sa u) (by simp [hu])
      rw [Nat.zero_add] at this
      exact List.mem_of_getElem? this
    · have := hc u (List.mem_of_getElem? hu)
      simp [hk, x_g_cat, this]
end
section
section XR
variable {ξ : xX} {μ : xD} {pc : Nat} {ls st : List Value} {sh : List xS} {M : xM} {kc ks : Nat} {Q : Option Value → List xS → xM → Prop}
theorem X_eq {pc2 : Nat} (h : pc = pc2) (k : X ξ μ pc2 ls st sh M kc ks Q) : X ξ μ pc ls st sh M kc ks Q := h ▸ k
theorem X_mono {Q2 : Option Value → List xS → xM → Prop} (hq : ∀ r sh M, Q2 r sh M → Q r sh M) (k : X ξ μ pc ls st sh M kc ks Q2) : X ξ μ pc ls st sh M kc ks Q := by
  intro l dC dI cI cZ cS B sa A p e s m args below meth c H locs arr hC hE hW hS hL
  intro T hT Y
  obtain ⟨t, a, o, b1, b2, ⟨⟨r, sh2, M2, c1, c2, c3⟩, c4⟩, b4⟩ := (k l dC dI cI cZ cS B sa A p e s m args below meth c H locs arr hC hE hW hS hL) T hT Y
  exact ⟨t, a, o, b1, b2, ⟨⟨r, sh2, M2, c1, hq _ _ _ c2, c3⟩, c4⟩, b4⟩
theorem X_cut (n : Nat) (k : X ξ μ pc (ls.take n) st sh M kc ks Q) : X ξ μ pc ls st sh M kc ks Q := by
  intro l dC dI cI cZ cS B sa A p e s m args below meth c H locs arr hC hE hW hS hL
  refine k l dC dI cI cZ cS B sa A p e s m args below meth c H locs arr hC hE hW hS (x_hasL_of hL fun i v hv => ?_)
  rw [List.getElem?_take] at hv
  split at hv
  · have := x_ix_at (ls.map (x_g B sa)) 0 i (x_g B sa v) (by simp [hv])
    rw [Nat.zero_add] at this
    exact List.mem_of_getElem? this
  · cases hv
theorem X_iadd {x y : Int32} (hd : decode μ.2.1 pc = .ok (.iadd, 1)) (k : X ξ μ (pc + 1) ls (.int (x + y) :: st) sh M kc ks Q) : X ξ μ pc ls (.int y :: .int x :: st) sh M kc ks Q := by
  intro l dC dI cI cZ cS B sa A p e s m args below meth c H locs arr hC hE hW hS hL
  exact lv_iadd hC.1 hC.2.1 hd (k l dC dI cI cZ cS B sa A p e s m args below meth c H locs arr hC hE hW hS hL)
theorem X_isub {x y : Int32} (hd : decode μ.2.1 pc = .ok (.isub, 1)) (k : X ξ μ (pc + 1) ls (.int (x - y) :: st) sh M kc ks Q) : X ξ μ pc ls (.int y :: .int x :: st) sh M kc ks Q := by
  intro l dC dI cI cZ cS B sa A p e s m args below meth c H locs arr hC hE hW hS hL
  exact lv_isub hC.1 hC.2.1 hd (k l dC dI cI cZ cS B sa A p e s m args below meth c H locs arr hC hE hW hS hL)
theorem X_imul {x y : Int32} (hd : decode μ.2.1 pc = .ok (.imul, 1)) (k : X ξ μ (pc + 1) ls (.int (x * y) :: st) sh M kc ks Q) : X ξ μ pc ls (.int y :: .int x :: st) sh M kc ks Q := by
  intro l dC dI cI cZ cS B sa A p e s m args below meth c H locs arr hC hE hW hS hL
  exact lv_imul hC.1 hC.2.1 hd (k l dC dI cI cZ cS B sa A p e s m args below meth c H locs arr hC hE hW hS hL)
theorem X_iand {x y : Int32} (hd : decode μ.2.1 pc = .ok (.iand, 1)) (k : X ξ μ (pc + 1) ls (.int (x &&& y) :: st) sh M kc ks Q) : X ξ μ pc ls (.int y :: .int x :: st) sh M kc ks Q := by
  intro l dC dI cI cZ cS B sa A p e s m args below meth c H locs arr hC hE hW hS hL
  exact lv_iand hC.1 hC.2.1 hd (k l dC dI cI cZ cS B sa A p e s m args below meth c H locs arr hC hE hW hS hL)
theorem X_ior {x y : Int32} (hd : decode μ.2.1 pc = .ok (.ior, 1)) (k : X ξ μ (pc + 1) ls (.int (x ||| y) :: st) sh M kc ks Q) : X ξ μ pc ls (.int y :: .int x :: st) sh M kc ks Q := by
  intro l dC dI cI cZ cS B sa A p e s m args below meth c H locs arr hC hE hW hS hL
  exact lv_ior hC.1 hC.2.1 hd (k l dC dI cI cZ cS B sa A p e s m args below meth c H locs arr hC hE hW hS hL)
theorem X_ixor {x y : Int32} (hd : decode μ.2.1 pc = .ok (.ixor, 1)) (k : X ξ μ (pc + 1) ls (.int (x ^^^ y) :: st) sh M kc ks Q) : X ξ μ pc ls (.int y :: .int x :: st) sh M kc ks Q := by
  intro l dC dI cI cZ cS B sa A p e s m args below meth c H locs arr hC hE hW hS hL
  exact lv_ixor hC.1 hC.2.1 hd (k l dC dI cI cZ cS B sa A p e s m args below meth c H locs arr hC hE hW hS hL)
theorem X_ishl {x y : Int32} (hd : decode μ.2.1 pc = .ok (.ishl, 1)) (k : X ξ μ (pc + 1) ls (.int (x <<< (y &&& 31)) :: st) sh M kc ks Q) : X ξ μ pc ls (.int y :: .int x :: st) sh M kc ks Q := by
  intro l dC dI cI cZ cS B sa A p e s m args below meth c H locs arr hC hE hW hS hL
  exact lv_ishl hC.1 hC.2.1 hd (k l dC dI cI cZ cS B sa A p e s m args below meth c H locs arr hC hE hW hS hL)
theorem X_ishr {x y : Int32} (hd : decode μ.2.1 pc = .ok (.ishr, 1)) (k : X ξ μ (pc + 1) ls (.int (x >>> (y &&& 31)) :: st) sh M kc ks Q) : X ξ μ pc ls (.int y :: .int x :: st) sh M kc ks Q := by
  intro l dC dI cI cZ cS B sa A p e s m args below meth c H locs arr hC hE hW hS hL
  exact lv_ishr hC.1 hC.2.1 hd (k l dC dI cI cZ cS B sa A p e s m args below meth c H locs arr hC hE hW hS hL)
theorem X_idiv {x y : Int32} (hne : ¬ y = 0) (hd : decode μ.2.1 pc = .ok (.idiv, 1)) (k : X ξ μ (pc + 1) ls (.int (x / y) :: st) sh M kc ks Q) : X ξ μ pc ls (.int y :: .int x :: st) sh M kc ks Q := by
  intro l dC dI cI cZ cS B sa A p e s m args below meth c H locs arr hC hE hW hS hL
  exact lv_idiv hC.1 hC.2.1 hd hne (k l dC dI cI cZ cS B sa A p e s m args below meth c H locs arr hC hE hW hS hL)
theorem X_irem {x y : Int32} (hne : ¬ y = 0) (hd : decode μ.2.1 pc = .ok (.irem, 1)) (k : X ξ μ (pc + 1) ls (.int (x - x / y * y) :: st) sh M kc ks Q) : X ξ μ pc ls (.int y :: .int x :: st) sh M kc ks Q := by
  intro l dC dI cI cZ cS B sa A p e s m args below meth c H locs arr hC hE hW hS hL
  exact lv_irem hC.1 hC.2.1 hd hne (k l dC dI cI cZ cS B sa A p e s m args below meth c H locs arr hC hE hW hS hL)
theorem X_iushr {x y : Int32} (hd : decode μ.2.1 pc = .ok (.iushr, 1)) (k : X ξ μ (pc + 1) ls (.int ((x.toUInt32 >>> (y.toUInt32 &&& Int32.toUInt32 31)).toInt32) :: st) sh M kc ks Q) : X ξ μ pc ls (.int y :: .int x :: st) sh M kc ks Q := by
  intro l dC dI cI cZ cS B sa A p e s m args below meth c H locs arr hC hE hW hS hL
  exact lv_iushr hC.1 hC.2.1 hd rfl (k l dC dI cI cZ cS B sa A p e s m args below meth c H locs arr hC hE hW hS hL)
theorem X_ineg {x : Int32} (hd : decode μ.2.1 pc = .ok (.ineg, 1)) (k : X ξ μ (pc + 1) ls (.int (-x) :: st) sh M kc ks Q) : X ξ μ pc ls (.int x :: st) sh M kc ks Q := by
  intro l dC dI cI cZ cS B sa A p e s m args below meth c H locs arr hC hE hW hS hL
  exact lv_ineg hC.1 hC.2.1 hd (k l dC dI cI cZ cS B sa A p e s m args below meth c H locs arr hC hE hW hS hL)
theorem X_iconst {n : Int} (v : Int32) (hd : decode μ.2.1 pc = .ok (.iconst n, 1)) (hv : Int32.ofInt n = v) (k : X ξ μ (pc + 1) ls (.int v :: st) sh M kc ks Q) : X ξ μ pc ls st sh M kc ks Q := by
  intro l dC dI cI cZ cS B sa A p e s m args below meth c H locs arr hC hE hW hS hL
  exact lv_iconst hC.1 hC.2.1 hd hv (k l dC dI cI cZ cS B sa A p e s m args below meth c H locs arr hC hE hW hS hL)
theorem X_bipush {n : Int} (v : Int32) (hd : decode μ.2.1 pc = .ok (.bipush n, 2)) (hv : (Int8.ofInt n).toInt32 = v) (k : X ξ μ (pc + 2) ls (.int v :: st) sh M kc ks Q) : X ξ μ pc ls st sh M kc ks Q := by
  intro l dC dI cI cZ cS B sa A p e s m args below meth c H locs arr hC hE hW hS hL
  exact lv_bipush hC.1 hC.2.1 hd hv (k l dC dI cI cZ cS B sa A p e s m args below meth c H locs arr hC hE hW hS hL)
theorem X_sipush {n : Int} (v : Int32) (hd : decode μ.2.1 pc = .ok (.sipush n, 3)) (hv : (Int16.ofInt n).toInt32 = v) (k : X ξ μ (pc + 3) ls (.int v :: st) sh M kc ks Q) : X ξ μ pc ls st sh M kc ks Q := by
  intro l dC dI cI cZ cS B sa A p e s m args below meth c H locs arr hC hE hW hS hL
  exact lv_sipush hC.1 hC.2.1 hd hv (k l dC dI cI cZ cS B sa A p e s m args below meth c H locs arr hC hE hW hS hL)
theorem X_ldcw {n : Nat} (v : Int32) (hw : Cond.constant μ.1.cls n v ∈ xTW) (hd : decode μ.2.1 pc = .ok (.ldc_w n, 3)) (k : X ξ μ (pc + 3) ls (.int v :: st) sh M kc ks Q) : X ξ μ pc ls st sh M kc ks Q := by
  intro l dC dI cI cZ cS B sa A p e s m args below meth c H locs arr hC hE hW hS hL
  exact lv_ldcw hC.1 hC.2.1 hC.2.2.2.2.1 (hC.2.2.2.2.2.2.2 _ hw) hd (k l dC dI cI cZ cS B sa A p e s m args below meth c H locs arr hC hE hW hS hL)
theorem X_iload_n {i : Fin 4} {x : Int32} (hd : decode μ.2.1 pc = .ok (.iload_n i, 1)) (hx : ls[(i : Nat)]? = some (.int x)) (k : X ξ μ (pc + 1) ls (.int x :: st) sh M kc ks Q) : X ξ μ pc ls st sh M kc ks Q := by
  intro l dC dI cI cZ cS B sa A p e s m args below meth c H locs arr hC hE hW hS hL
  exact lv_iload_n hC.1 hC.2.1 hd rfl (x_hasL_at hL hx) (k l dC dI cI cZ cS B sa A p e s m args below meth c H locs arr hC hE hW hS hL)
theorem X_iload {i : Nat} {x : Int32} (hd : decode μ.2.1 pc = .ok (.iload i, 2)) (hx : ls[i]? = some (.int x)) (k : X ξ μ (pc + 2) ls (.int x :: st) sh M kc ks Q) : X ξ μ pc ls st sh M kc ks Q := by
  intro l dC dI cI cZ cS B sa A p e s m args below meth c H locs arr hC hE hW hS hL
  exact lv_iload hC.1 hC.2.1 hd (x_hasL_at hL hx) (k l dC dI cI cZ cS B sa A p e s m args below meth c H locs arr hC hE hW hS hL)
theorem X_aload_n {i : Fin 4} {x : Nat} (hd : decode μ.2.1 pc = .ok (.aload_n i, 1)) (hx : ls[(i : Nat)]? = some (.ref x)) (k : X ξ μ (pc + 1) ls (.ref x :: st) sh M kc ks Q) : X ξ μ pc ls st sh M kc ks Q := by
  intro l dC dI cI cZ cS B sa A p e s m args below meth c H locs arr hC hE hW hS hL
  exact lv_aload_n hC.1 hC.2.1 hd rfl (x_hasL_at hL hx) (k l dC dI cI cZ cS B sa A p e s m args below meth c H locs arr hC hE hW hS hL)
theorem X_aload_nF {i : Fin 4} {x : UInt32} (hd : decode μ.2.1 pc = .ok (.aload_n i, 1)) (hx : ls[(i : Nat)]? = some (.float x)) (k : X ξ μ (pc + 1) ls (.float x :: st) sh M kc ks Q) : X ξ μ pc ls st sh M kc ks Q := by
  intro l dC dI cI cZ cS B sa A p e s m args below meth c H locs arr hC hE hW hS hL
  exact lv_aload_n hC.1 hC.2.1 hd rfl (x_hasL_at hL hx) (k l dC dI cI cZ cS B sa A p e s m args below meth c H locs arr hC hE hW hS hL)
theorem X_aload_nN {i : Fin 4} (hd : decode μ.2.1 pc = .ok (.aload_n i, 1)) (hx : ls[(i : Nat)]? = some .null) (k : X ξ μ (pc + 1) ls (.null :: st) sh M kc ks Q) : X ξ μ pc ls st sh M kc ks Q := by
  intro l dC dI cI cZ cS B sa A p e s m args below meth c H locs arr hC hE hW hS hL
  exact lv_aload_nN hC.1 hC.2.1 hd rfl (x_hasL_at hL hx) (k l dC dI cI cZ cS B sa A p e s m args below meth c H locs arr hC hE hW hS hL)
theorem X_aload {i : Nat} {x : Nat} (hd : decode μ.2.1 pc = .ok (.aload i, 2)) (hx : ls[i]? = some (.ref x)) (k : X ξ μ (pc + 2) ls (.ref x :: st) sh M kc ks Q) : X ξ μ pc ls st sh M kc ks Q := by
  intro l dC dI cI cZ cS B sa A p e s m args below meth c H locs arr hC hE hW hS hL
  exact lv_aload hC.1 hC.2.1 hd (x_hasL_at hL hx) (k l dC dI cI cZ cS B sa A p e s m args below meth c H locs arr hC hE hW hS hL)
theorem X_istore_n {i : Fin 4} {x : Int32} (ls' : List Value) (hd : decode μ.2.1 pc = .ok (.istore_n i, 1)) (hi : (i : Nat) ≤ ls.length) (hn : (i : Nat) < μ.2.2.1) (hc : ∀ u ∈ ls, u.category = 1) (hls : x_up ls i (.int x) = ls') (k : X ξ μ (pc + 1) ls' st sh M kc ks Q) : X ξ μ pc ls (.int x :: st) sh M kc ks Q := by
  intro l dC dI cI cZ cS B sa A p e s m args below meth c H locs arr hC hE hW hS hL
  subst hls
  exact lv_istore_n hC.1 hC.2.1 hd rfl hL hn rfl (fun arr' hL' => k l dC dI cI cZ cS B sa A p e s m args below meth c H locs arr' hC hE hW hS (x_hasL_up (v := .int x) hi hc hL'))
theorem X_istore {i : Nat} {x : Int32} (ls' : List Value) (hd : decode μ.2.1 pc = .ok (.istore i, 2)) (hi : (i : Nat) ≤ ls.length) (hn : (i : Nat) < μ.2.2.1) (hc : ∀ u ∈ ls, u.category = 1) (hls : x_up ls i (.int x) = ls') (k : X ξ μ (pc + 2) ls' st sh M kc ks Q) : X ξ μ pc ls (.int x :: st) sh M kc ks Q := by
  intro l dC dI cI cZ cS B sa A p e s m args below meth c H locs arr hC hE hW hS hL
  subst hls
  exact lv_istore hC.1 hC.2.1 hd hL hn rfl (fun arr' hL' => k l dC dI cI cZ cS B sa A p e s m args below meth c H locs arr' hC hE hW hS (x_hasL_up (v := .int x) hi hc hL'))
theorem X_astore_n {i : Fin 4} {x : Nat} (ls' : List Value) (hd : decode μ.2.1 pc = .ok (.astore_n i, 1)) (hi : (i : Nat) ≤ ls.length) (hn : (i : Nat) < μ.2.2.1) (hc : ∀ u ∈ ls, u.category = 1) (hls : x_up ls i (.ref x) = ls') (k : X ξ μ (pc + 1) ls' st sh M kc ks Q) : X ξ μ pc ls (.ref x :: st) sh M kc ks Q := by
  intro l dC dI cI cZ cS B sa A p e s m args below meth c H locs arr hC hE hW hS hL
  subst hls
  exact lv_astore_n hC.1 hC.2.1 hd rfl hL hn rfl (fun arr' hL' => k l dC dI cI cZ cS B sa A p e s m args below meth c H locs arr' hC hE hW hS (x_hasL_up (v := .ref x) hi hc hL'))
theorem X_astore_nN {i : Fin 4} (ls' : List Value) (hd : decode μ.2.1 pc = .ok (.astore_n i, 1)) (hi : (i : Nat) ≤ ls.length) (hn : (i : Nat) < μ.2.2.1) (hc : ∀ u ∈ ls, u.category = 1) (hls : x_up ls i .null = ls') (k : X ξ μ (pc + 1) ls' st sh M kc ks Q) : X ξ μ pc ls (.null :: st) sh M kc ks Q := by
  intro l dC dI cI cZ cS B sa A p e s m args below meth c H locs arr hC hE hW hS hL
  subst hls
  exact lv_astore_nN hC.1 hC.2.1 hd rfl hL hn rfl (fun arr' hL' => k l dC dI cI cZ cS B sa A p e s m args below meth c H locs arr' hC hE hW hS (x_hasL_up (v := .null) hi hc hL'))
theorem X_iinc {i : Nat} {n : Int} {x : Int32} (d : Int32) (ls' : List Value) (hd : decode μ.2.1 pc = .ok (.iinc i n, 3)) (hx : ls[i]? = some (.int x)) (hv : Int32.ofInt n = d) (hn : i < μ.2.2.1) (hc : ∀ u ∈ ls, u.category = 1) (hls : x_up ls i (.int (x + d)) = ls') (k : X ξ μ (pc + 3) ls' st sh M kc ks Q) : X ξ μ pc ls st sh M kc ks Q := by
  intro l dC dI cI cZ cS B sa A p e s m args below meth c H locs arr hC hE hW hS hL
  subst hls
  subst hv
  have hi : i ≤ ls.length := Nat.le_of_lt (List.getElem?_eq_some_iff.mp hx).1
  exact lv_iinc (k := i) (v := x + Int32.ofInt n) hC.1 hC.2.1 hd hL (by rw [x_ix_at (ls.map (x_g B sa)) 0 i (.int x) (by simp [hx, x_g])]; simp) rfl hn rfl (fun arr' hL' => k l dC dI cI cZ cS B sa A p e s m args below meth c H locs arr' hC hE hW hS (x_hasL_up (v := .int (x + Int32.ofInt n)) hi hc hL'))
theorem X_dup {v : Value} (hd : decode μ.2.1 pc = .ok (.dup, 1)) (hv : v.category = 1) (k : X ξ μ (pc + 1) ls (v :: v :: st) sh M kc ks Q) : X ξ μ pc ls (v :: st) sh M kc ks Q := by
  intro l dC dI cI cZ cS B sa A p e s m args below meth c H locs arr hC hE hW hS hL
  exact lv_dup hC.1 hC.2.1 hd ((x_g_cat B sa v).trans hv) (k l dC dI cI cZ cS B sa A p e s m args below meth c H locs arr hC hE hW hS hL)
theorem X_pop {v : Value} (hd : decode μ.2.1 pc = .ok (.pop, 1)) (hv : v.category = 1) (k : X ξ μ (pc + 1) ls st sh M kc ks Q) : X ξ μ pc ls (v :: st) sh M kc ks Q := by
  intro l dC dI cI cZ cS B sa A p e s m args below meth c H locs arr hC hE hW hS hL
  exact lv_pop hC.1 hC.2.1 hd ((x_g_cat B sa v).trans hv) (k l dC dI cI cZ cS B sa A p e s m args below meth c H locs arr hC hE hW hS hL)
theorem X_dup2 {v u : Value} (hd : decode μ.2.1 pc = .ok (.dup2, 1)) (hv : v.category = 1) (hu : u.category = 1) (k : X ξ μ (pc + 1) ls (v :: u :: v :: u :: st) sh M kc ks Q) : X ξ μ pc ls (v :: u :: st) sh M kc ks Q := by
  intro l dC dI cI cZ cS B sa A p e s m args below meth c H locs arr hC hE hW hS hL
  exact lv_dup2_11 hC.1 hC.2.1 hd ((x_g_cat B sa v).trans hv) ((x_g_cat B sa u).trans hu) (k l dC dI cI cZ cS B sa A p e s m args below meth c H locs arr hC hE hW hS hL)
def xl {α β : Type} (x : α) (f : α → β) : β := f x
def xgd {α : Type} (b : Bool) (a : Option α) : Option α := if b = true then a else none
def xin (i : Int32) (n : Nat) : Bool := !decide (i < 0) && decide (i.toNatClampNeg < n)
theorem xin_vp {i : Int32} {n : Nat} (h : xin i n = true) : vp_in i n := by
  simp only [xin, Bool.and_eq_true, Bool.not_eq_true', decide_eq_false_iff_not, decide_eq_true_eq] at h
  rintro (q | q)
  · exact h.1 q
  · omega
theorem xgd_some {α : Type} {b : Bool} {a : Option α} {z : α} (h : xgd b a = some z) : b = true ∧ a = some z := by
  unfold xgd at h
  split at h
  · exact ⟨‹_›, h⟩
  · cases h
def xr (r : Option Value) (sh : List xS) (M : xM) : Option Value → List xS → xM → Prop := fun a b c => a = r ∧ b = sh ∧ c = M
variable {α β : Type} {z : α}
theorem X_if_eq {x : Int32} {off : Int} (tgt : Nat) {a b : Option α} (hd : decode μ.2.1 pc = .ok (.ifCond .eq off, 3)) (ht : (pc : Int) + off = (tgt : Int)) (h : (if x = 0 then a else b) = some z) (kt : a = some z → X ξ μ tgt ls st sh M kc ks Q) (kf : b = some z → X ξ μ (pc + 3) ls st sh M kc ks Q) : X ξ μ pc ls (.int x :: st) sh M kc ks Q := by
  intro l dC dI cI cZ cS B sa A p e s m args below meth c H locs arr hC hE hW hS hL
  refine lv_if_eq (tgt := tgt) hC.1 hC.2.1 hd ht (fun hc => ?_) (fun hc => ?_)
  · rw [if_pos hc] at h
    exact kt h l dC dI cI cZ cS B sa A p e s m args below meth c H locs arr hC hE hW hS hL
  · rw [if_neg hc] at h
    exact kf h l dC dI cI cZ cS B sa A p e s m args below meth c H locs arr hC hE hW hS hL
theorem X_icmp_eq {x y : Int32} {off : Int} (tgt : Nat) {a b : Option α} (hd : decode μ.2.1 pc = .ok (.if_icmp .eq off, 3)) (ht : (pc : Int) + off = (tgt : Int)) (h : (if x = y then a else b) = some z) (kt : a = some z → X ξ μ tgt ls st sh M kc ks Q) (kf : b = some z → X ξ μ (pc + 3) ls st sh M kc ks Q) : X ξ μ pc ls (.int y :: .int x :: st) sh M kc ks Q := by
  intro l dC dI cI cZ cS B sa A p e s m args below meth c H locs arr hC hE hW hS hL
  refine lv_icmp_eq (tgt := tgt) hC.1 hC.2.1 hd ht (fun hc => ?_) (fun hc => ?_)
  · rw [if_pos hc] at h
    exact kt h l dC dI cI cZ cS B sa A p e s m args below meth c H locs arr hC hE hW hS hL
  · rw [if_neg hc] at h
    exact kf h l dC dI cI cZ cS B sa A p e s m args below meth c H locs arr hC hE hW hS hL
theorem X_if_ne {x : Int32} {off : Int} (tgt : Nat) {a b : Option α} (hd : decode μ.2.1 pc = .ok (.ifCond .ne off, 3)) (ht : (pc : Int) + off = (tgt : Int)) (h : (if x = 0 then b else a) = some z) (kt : a = some z → X ξ μ tgt ls st sh M kc ks Q) (kf : b = some z → X ξ μ (pc + 3) ls st sh M kc ks Q) : X ξ μ pc ls (.int x :: st) sh M kc ks Q := by
  intro l dC dI cI cZ cS B sa A p e s m args below meth c H locs arr hC hE hW hS hL
  refine lv_if_ne (tgt := tgt) hC.1 hC.2.1 hd ht (fun hc => ?_) (fun hc => ?_)
  · rw [if_neg hc] at h
    exact kt h l dC dI cI cZ cS B sa A p e s m args below meth c H locs arr hC hE hW hS hL
  · rw [if_pos hc] at h
    exact kf h l dC dI cI cZ cS B sa A p e s m args below meth c H locs arr hC hE hW hS hL
theorem X_icmp_ne {x y : Int32} {off : Int} (tgt : Nat) {a b : Option α} (hd : decode μ.2.1 pc = .ok (.if_icmp .ne off, 3)) (ht : (pc : Int) + off = (tgt : Int)) (h : (if x = y then b else a) = some z) (kt : a = some z → X ξ μ tgt ls st sh M kc ks Q) (kf : b = some z → X ξ μ (pc + 3) ls st sh M kc ks Q) : X ξ μ pc ls (.int y :: .int x :: st) sh M kc ks Q := by
  intro l dC dI cI cZ cS B sa A p e s m args below meth c H locs arr hC hE hW hS hL
  refine lv_icmp_ne (tgt := tgt) hC.1 hC.2.1 hd ht (fun hc => ?_) (fun hc => ?_)
  · rw [if_neg hc] at h
    exact kt h l dC dI cI cZ cS B sa A p e s m args below meth c H locs arr hC hE hW hS hL
  · rw [if_pos hc] at h
    exact kf h l dC dI cI cZ cS B sa A p e s m args below meth c H locs arr hC hE hW hS hL
theorem X_if_lt {x : Int32} {off : Int} (tgt : Nat) {a b : Option α} (hd : decode μ.2.1 pc = .ok (.ifCond .lt off, 3)) (ht : (pc : Int) + off = (tgt : Int)) (h : (if x < 0 then a else b) = some z) (kt : a = some z → X ξ μ tgt ls st sh M kc ks Q) (kf : b = some z → X ξ μ (pc + 3) ls st sh M kc ks Q) : X ξ μ pc ls (.int x :: st) sh M kc ks Q := by
  intro l dC dI cI cZ cS B sa A p e s m args below meth c H locs arr hC hE hW hS hL
  refine lv_if_lt (tgt := tgt) hC.1 hC.2.1 hd ht (fun hc => ?_) (fun hc => ?_)
  · rw [if_pos hc] at h
    exact kt h l dC dI cI cZ cS B sa A p e s m args below meth c H locs arr hC hE hW hS hL
  · rw [if_neg hc] at h
    exact kf h l dC dI cI cZ cS B sa A p e s m args below meth c H locs arr hC hE hW hS hL
theorem X_icmp_lt {x y : Int32} {off : Int} (tgt : Nat) {a b : Option α} (hd : decode μ.2.1 pc = .ok (.if_icmp .lt off, 3)) (ht : (pc : Int) + off = (tgt : Int)) (h : (if x < y then a else b) = some z) (kt : a = some z → X ξ μ tgt ls st sh M kc ks Q) (kf : b = some z → X ξ μ (pc + 3) ls st sh M kc ks Q) : X ξ μ pc ls (.int y :: .int x :: st) sh M kc ks Q := by
  intro l dC dI cI cZ cS B sa A p e s m args below meth c H locs arr hC hE hW hS hL
  refine lv_icmp_lt (tgt := tgt) hC.1 hC.2.1 hd ht (fun hc => ?_) (fun hc => ?_)
  · rw [if_pos hc] at h
    exact kt h l dC dI cI cZ cS B sa A p e s m args below meth c H locs arr hC hE hW hS hL
  · rw [if_neg hc] at h
    exact kf h l dC dI cI cZ cS B sa A p e s m args below meth c H locs arr hC hE hW hS hL
theorem X_if_ge {x : Int32} {off : Int} (tgt : Nat) {a b : Option α} (hd : decode μ.2.1 pc = .ok (.ifCond .ge off, 3)) (ht : (pc : Int) + off = (tgt : Int)) (h : (if 0 ≤ x then a else b) = some z) (kt : a = some z → X ξ μ tgt ls st sh M kc ks Q) (kf : b = some z → X ξ μ (pc + 3) ls st sh M kc ks Q) : X ξ μ pc ls (.int x :: st) sh M kc ks Q := by
  intro l dC dI cI cZ cS B sa A p e s m args below meth c H locs arr hC hE hW hS hL
  refine lv_if_ge (tgt := tgt) hC.1 hC.2.1 hd ht (fun hc => ?_) (fun hc => ?_)
  · rw [if_pos hc] at h
    exact kt h l dC dI cI cZ cS B sa A p e s m args below meth c H locs arr hC hE hW hS hL
  · rw [if_neg hc] at h
    exact kf h l dC dI cI cZ cS B sa A p e s m args below meth c H locs arr hC hE hW hS hL
theorem X_icmp_ge {x y : Int32} {off : Int} (tgt : Nat) {a b : Option α} (hd : decode μ.2.1 pc = .ok (.if_icmp .ge off, 3)) (ht : (pc : Int) + off = (tgt : Int)) (h : (if y ≤ x then a else b) = some z) (kt : a = some z → X ξ μ tgt ls st sh M kc ks Q) (kf : b = some z → X ξ μ (pc + 3) ls st sh M kc ks Q) : X ξ μ pc ls (.int y :: .int x :: st) sh M kc ks Q := by
  intro l dC dI cI cZ cS B sa A p e s m args below meth c H locs arr hC hE hW hS hL
  refine lv_icmp_ge (tgt := tgt) hC.1 hC.2.1 hd ht (fun hc => ?_) (fun hc => ?_)
  · rw [if_pos hc] at h
    exact kt h l dC dI cI cZ cS B sa A p e s m args below meth c H locs arr hC hE hW hS hL
  · rw [if_neg hc] at h
    exact kf h l dC dI cI cZ cS B sa A p e s m args below meth c H locs arr hC hE hW hS hL
theorem X_if_gt {x : Int32} {off : Int} (tgt : Nat) {a b : Option α} (hd : decode μ.2.1 pc = .ok (.ifCond .gt off, 3)) (ht : (pc : Int) + off = (tgt : Int)) (h : (if 0 < x then a else b) = some z) (kt : a = some z → X ξ μ tgt ls st sh M kc ks Q) (kf : b = some z → X ξ μ (pc + 3) ls st sh M kc ks Q) : X ξ μ pc ls (.int x :: st) sh M kc ks Q := by
  intro l dC dI cI cZ cS B sa A p e s m args below meth c H locs arr hC hE hW hS hL
  refine lv_if_gt (tgt := tgt) hC.1 hC.2.1 hd ht (fun hc => ?_) (fun hc => ?_)
  · rw [if_pos hc] at h
    exact kt h l dC dI cI cZ cS B sa A p e s m args below meth c H locs arr hC hE hW hS hL
  · rw [if_neg hc] at h
    exact kf h l dC dI cI cZ cS B sa A p e s m args below meth c H locs arr hC hE hW hS hL
theorem X_icmp_gt {x y : Int32} {off : Int} (tgt : Nat) {a b : Option α} (hd : decode μ.2.1 pc = .ok (.if_icmp .gt off, 3)) (ht : (pc : Int) + off = (tgt : Int)) (h : (if y < x then a else b) = some z) (kt : a = some z → X ξ μ tgt ls st sh M kc ks Q) (kf : b = some z → X ξ μ (pc + 3) ls st sh M kc ks Q) : X ξ μ pc ls (.int y :: .int x :: st) sh M kc ks Q := by
  intro l dC dI cI cZ cS B sa A p e s m args below meth c H locs arr hC hE hW hS hL
  refine lv_icmp_gt (tgt := tgt) hC.1 hC.2.1 hd ht (fun hc => ?_) (fun hc => ?_)
  · rw [if_pos hc] at h
    exact kt h l dC dI cI cZ cS B sa A p e s m args below meth c H locs arr hC hE hW hS hL
  · rw [if_neg hc] at h
    exact kf h l dC dI cI cZ cS B sa A p e s m args below meth c H locs arr hC hE hW hS hL
theorem X_if_le {x : Int32} {off : Int} (tgt : Nat) {a b : Option α} (hd : decode μ.2.1 pc = .ok (.ifCond .le off, 3)) (ht : (pc : Int) + off = (tgt : Int)) (h : (if x ≤ 0 then a else b) = some z) (kt : a = some z → X ξ μ tgt ls st sh M kc ks Q) (kf : b = some z → X ξ μ (pc + 3) ls st sh M kc ks Q) : X ξ μ pc ls (.int x :: st) sh M kc ks Q := by
  intro l dC dI cI cZ cS B sa A p e s m args below meth c H locs arr hC hE hW hS hL
  refine lv_if_le (tgt := tgt) hC.1 hC.2.1 hd ht (fun hc => ?_) (fun hc => ?_)
  · rw [if_pos hc] at h
    exact kt h l dC dI cI cZ cS B sa A p e s m args below meth c H locs arr hC hE hW hS hL
  · rw [if_neg hc] at h
    exact kf h l dC dI cI cZ cS B sa A p e s m args below meth c H locs arr hC hE hW hS hL
theorem X_icmp_le {x y : Int32} {off : Int} (tgt : Nat) {a b : Option α} (hd : decode μ.2.1 pc = .ok (.if_icmp .le off, 3)) (ht : (pc : Int) + off = (tgt : Int)) (h : (if x ≤ y then a else b) = some z) (kt : a = some z → X ξ μ tgt ls st sh M kc ks Q) (kf : b = some z → X ξ μ (pc + 3) ls st sh M kc ks Q) : X ξ μ pc ls (.int y :: .int x :: st) sh M kc ks Q := by
  intro l dC dI cI cZ cS B sa A p e s m args below meth c H locs arr hC hE hW hS hL
  refine lv_icmp_le (tgt := tgt) hC.1 hC.2.1 hd ht (fun hc => ?_) (fun hc => ?_)
  · rw [if_pos hc] at h
    exact kt h l dC dI cI cZ cS B sa A p e s m args below meth c H locs arr hC hE hW hS hL
  · rw [if_neg hc] at h
    exact kf h l dC dI cI cZ cS B sa A p e s m args below meth c H locs arr hC hE hW hS hL
theorem X_goto {off : Int} (tgt : Nat) (hd : decode μ.2.1 pc = .ok (.goto off, 3)) (ht : (pc : Int) + off = (tgt : Int)) (k : X ξ μ tgt ls st sh M kc ks Q) : X ξ μ pc ls st sh M kc ks Q := by
  intro l dC dI cI cZ cS B sa A p e s m args below meth c H locs arr hC hE hW hS hL
  exact lv_goto (tgt := tgt) hC.1 hC.2.1 hd ht (k l dC dI cI cZ cS B sa A p e s m args below meth c H locs arr hC hE hW hS hL)
theorem X_ifnonnull {x : Nat} {off : Int} (tgt : Nat) (hd : decode μ.2.1 pc = .ok (.ifnonnull off, 3)) (ht : (pc : Int) + off = (tgt : Int)) (k : X ξ μ tgt ls st sh M kc ks Q) : X ξ μ pc ls (.ref x :: st) sh M kc ks Q := by
  intro l dC dI cI cZ cS B sa A p e s m args below meth c H locs arr hC hE hW hS hL
  exact lv_ifnonnull (tgt := tgt) hC.1 hC.2.1 hd ht (k l dC dI cI cZ cS B sa A p e s m args below meth c H locs arr hC hE hW hS hL)
theorem X_ifnonnullN {off : Int} (hd : decode μ.2.1 pc = .ok (.ifnonnull off, 3)) (k : X ξ μ (pc + 3) ls st sh M kc ks Q) : X ξ μ pc ls (.null :: st) sh M kc ks Q := by
  intro l dC dI cI cZ cS B sa A p e s m args below meth c H locs arr hC hE hW hS hL
  exact lv_ifnonnullN hC.1 hC.2.1 hd (k l dC dI cI cZ cS B sa A p e s m args below meth c H locs arr hC hE hW hS hL)
theorem X_ifnull {x : Nat} {off : Int} (hd : decode μ.2.1 pc = .ok (.ifnull off, 3)) (k : X ξ μ (pc + 3) ls st sh M kc ks Q) : X ξ μ pc ls (.ref x :: st) sh M kc ks Q := by
  intro l dC dI cI cZ cS B sa A p e s m args below meth c H locs arr hC hE hW hS hL
  exact lv_ifnull hC.1 hC.2.1 hd (k l dC dI cI cZ cS B sa A p e s m args below meth c H locs arr hC hE hW hS hL)
theorem X_ifnullN {off : Int} (tgt : Nat) (hd : decode μ.2.1 pc = .ok (.ifnull off, 3)) (ht : (pc : Int) + off = (tgt : Int)) (k : X ξ μ tgt ls st sh M kc ks Q) : X ξ μ pc ls (.null :: st) sh M kc ks Q := by
  intro l dC dI cI cZ cS B sa A p e s m args below meth c H locs arr hC hE hW hS hL
  exact lv_ifnullN (tgt := tgt) hC.1 hC.2.1 hd ht (k l dC dI cI cZ cS B sa A p e s m args below meth c H locs arr hC hE hW hS hL)
theorem X_null (hd : decode μ.2.1 pc = .ok (.aconst_null, 1)) (k : X ξ μ (pc + 1) ls (.null :: st) sh M kc ks Q) : X ξ μ pc ls st sh M kc ks Q := by
  intro l dC dI cI cZ cS B sa A p e s m args below meth c H locs arr hC hE hW hS hL
  exact lv_null hC.1 hC.2.1 hd (k l dC dI cI cZ cS B sa A p e s m args below meth c H locs arr hC hE hW hS hL)
theorem X_let {x : β} {g : β → Option α} (h : xl x g = some z) (k : ∀ y : β, g y = some z → X ξ μ pc ls st sh M kc ks Q) : X ξ μ pc ls st sh M kc ks Q := k x h
theorem X_istoreL_n {i : Fin 4} {x : Int32} {g : Int32 → Option α} (ls' : Int32 → List Value) (hd : decode μ.2.1 pc = .ok (.istore_n i, 1)) (hi : (i : Nat) ≤ ls.length) (hn : (i : Nat) < μ.2.2.1) (hc : ∀ u ∈ ls, u.category = 1) (h : xl x g = some z) (hls : ∀ y, x_up ls i (.int y) = ls' y) (k : ∀ y : Int32, g y = some z → X ξ μ (pc + 1) (ls' y) st sh M kc ks Q) : X ξ μ pc ls (.int x :: st) sh M kc ks Q := X_istore_n (ls' x) hd hi hn hc (hls x) (k x h)
theorem X_istoreL {i : Nat} {x : Int32} {g : Int32 → Option α} (ls' : Int32 → List Value) (hd : decode μ.2.1 pc = .ok (.istore i, 2)) (hi : (i : Nat) ≤ ls.length) (hn : (i : Nat) < μ.2.2.1) (hc : ∀ u ∈ ls, u.category = 1) (h : xl x g = some z) (hls : ∀ y, x_up ls i (.int y) = ls' y) (k : ∀ y : Int32, g y = some z → X ξ μ (pc + 2) (ls' y) st sh M kc ks Q) : X ξ μ pc ls (.int x :: st) sh M kc ks Q := X_istore (ls' x) hd hi hn hc (hls x) (k x h)
theorem X_iincL {i : Nat} {n : Int} {x : Int32} {g : Int32 → Option α} (d : Int32) (ls' : Int32 → List Value) (hd : decode μ.2.1 pc = .ok (.iinc i n, 3)) (hx : ls[i]? = some (.int x)) (hv : Int32.ofInt n = d) (hn : i < μ.2.2.1) (hc : ∀ u ∈ ls, u.category = 1) (h : xl (x + d) g = some z) (hls : ∀ y, x_up ls i (.int y) = ls' y) (k : ∀ y : Int32, g y = some z → X ξ μ (pc + 3) (ls' y) st sh M kc ks Q) : X ξ μ pc ls st sh M kc ks Q := X_iinc d (ls' (x + d)) hd hx hv hn hc (hls (x + d)) (k (x + d) h)
theorem X_ireturn {v : Int32} (hd : decode μ.2.1 pc = .ok (.ireturn, 1)) (hrt : ∃ ty, μ.2.2.2.1 = some ty ∧ narrow ty (.int v) = .int v) (hk1 : kc ≤ μ.2.2.2.2.2.2.1) (hk2 : ks ≤ μ.2.2.2.2.2.2.2) (hq : Q (some (.int v)) sh M) : X ξ μ pc ls [.int v] sh M kc ks Q := by
  intro l dC dI cI cZ cS B sa A p e s m args below meth c H locs arr hC hE hW hS hL
  refine W.widen hk1 hk2 ?_
  obtain ⟨ty, h1, h2⟩ := hrt
  have hlk : meth.locks = false := hC.2.2.2.2.2.1
  exact W.zret (v := v) (ty := ty) hC.1 hC.2.1 (by rw [hC.2.2.1, h1]) h2 (fun t ht hWm => ⟨⟨some (.int v), sh, M, rfl, hq, va_K.moved hWm.alike hW.1, by rw [ht]; exact hW.2.1, hW.2.2.1, by rw [ht]; exact hW.2.2.2⟩, hS.F ht⟩) hS.2.2 hd
theorem X_return (hd : decode μ.2.1 pc = .ok (.return_, 1)) (hrt : μ.2.2.2.1 = none) (hk1 : kc ≤ μ.2.2.2.2.2.2.1) (hk2 : ks ≤ μ.2.2.2.2.2.2.2) (hq : Q none sh M) : X ξ μ pc ls [] sh M kc ks Q := by
  intro l dC dI cI cZ cS B sa A p e s m args below meth c H locs arr hC hE hW hS hL
  refine W.widen hk1 hk2 ?_
  have hlk : meth.locks = false := hC.2.2.2.2.2.1
  exact W.vret hC.1 hC.2.1 (by rw [hC.2.2.1, hrt]) (fun t ht hWm => ⟨⟨none, sh, M, rfl, hq, va_K.moved hWm.alike hW.1, by rw [ht]; exact hW.2.1, hW.2.2.1, by rw [ht]; exact hW.2.2.2⟩, hS.F ht⟩) hS.2.2 hd
theorem X_areturn {r : Option Nat} (hd : decode μ.2.1 pc = .ok (.areturn, 1)) (hrt : ∃ n, μ.2.2.2.1 = some (.object n)) (hk1 : kc ≤ μ.2.2.2.2.2.2.1) (hk2 : ks ≤ μ.2.2.2.2.2.2.2) (hq : Q (some (va_rf r)) sh M) : X ξ μ pc ls [va_rf r] sh M kc ks Q := by
  intro l dC dI cI cZ cS B sa A p e s m args below meth c H locs arr hC hE hW hS hL
  refine W.widen hk1 hk2 ?_
  obtain ⟨n, hrt⟩ := hrt
  have hlk : meth.locks = false := hC.2.2.2.2.2.1
  exact W.aret (v := x_g B sa (va_rf r)) (rt := .object n) hC.1 hC.2.1 (by rw [hC.2.2.1, hrt]) (Or.inl ⟨n, rfl⟩) (by rw [x_g_rf]; cases r; exact Or.inl rfl; exact Or.inr ⟨_, rfl⟩) (fun t ht hWm => ⟨⟨some (va_rf r), sh, M, rfl, hq, va_K.moved hWm.alike hW.1, by rw [ht]; exact hW.2.1, hW.2.2.1, by rw [ht]; exact hW.2.2.2⟩, hS.F ht⟩) hS.2.2 hd
theorem X_retP {v z : Int32} (hd : decode μ.2.1 pc = .ok (.ireturn, 1)) (hrt : μ.2.2.2.1 = some .int) (hk1 : kc ≤ μ.2.2.2.2.2.2.1) (hk2 : ks ≤ μ.2.2.2.2.2.2.2) (h : some v = some z) : X ξ μ pc ls [.int v] sh M kc ks (xr (some (.int z)) sh M) := by
  cases h
  exact X_ireturn hd ⟨_, hrt, rfl⟩ hk1 hk2 ⟨rfl, rfl, rfl⟩
theorem X_retI {v : Int32} {z : Int32 × xM} (hd : decode μ.2.1 pc = .ok (.ireturn, 1)) (hrt : μ.2.2.2.1 = some .int) (hk1 : kc ≤ μ.2.2.2.2.2.2.1) (hk2 : ks ≤ μ.2.2.2.2.2.2.2) (h : some (v, M) = some z) : X ξ μ pc ls [.int v] sh M kc ks (xr (some (.int z.1)) sh z.2) := by
  cases h
  exact X_ireturn hd ⟨_, hrt, rfl⟩ hk1 hk2 ⟨rfl, rfl, rfl⟩
def xz (v : Int32) : Bool := decide (v &&& 1 = v)
theorem xz_nar {v : Int32} (h : xz v = true) : narrow .boolean (.int v) = .int v := by
  have h := of_decide_eq_true h
  show Value.int (v &&& 1) = Value.int v
  rw [h]
theorem X_retZ {v z : Int32} (hd : decode μ.2.1 pc = .ok (.ireturn, 1)) (hrt : μ.2.2.2.1 = some .boolean) (hk1 : kc ≤ μ.2.2.2.2.2.2.1) (hk2 : ks ≤ μ.2.2.2.2.2.2.2) (h : xgd (xz v) (some v) = some z) : X ξ μ pc ls [.int v] sh M kc ks (xr (some (.int z)) sh M) := by
  obtain ⟨h1, h⟩ := xgd_some h
  cases h
  exact X_ireturn hd ⟨_, hrt, xz_nar h1⟩ hk1 hk2 ⟨rfl, rfl, rfl⟩
theorem X_retZI {v : Int32} {z : Int32 × xM} (hd : decode μ.2.1 pc = .ok (.ireturn, 1)) (hrt : μ.2.2.2.1 = some .boolean) (hk1 : kc ≤ μ.2.2.2.2.2.2.1) (hk2 : ks ≤ μ.2.2.2.2.2.2.2) (h : xgd (xz v) (some (v, M)) = some z) : X ξ μ pc ls [.int v] sh M kc ks (xr (some (.int z.1)) sh z.2) := by
  obtain ⟨h1, h⟩ := xgd_some h
  cases h
  exact X_ireturn hd ⟨_, hrt, xz_nar h1⟩ hk1 hk2 ⟨rfl, rfl, rfl⟩
theorem X_retV {z : xM} (hd : decode μ.2.1 pc = .ok (.return_, 1)) (hrt : μ.2.2.2.1 = none) (hk1 : kc ≤ μ.2.2.2.2.2.2.1) (hk2 : ks ≤ μ.2.2.2.2.2.2.2) (h : some M = some z) : X ξ μ pc ls [] sh M kc ks (xr none sh z) := by
  cases h
  exact X_return hd hrt hk1 hk2 ⟨rfl, rfl, rfl⟩

theorem X_idivG {x y : Int32} {a : Option α} (hd : decode μ.2.1 pc = .ok (.idiv, 1)) (h : (if y = 0 then none else a) = some z) (k : a = some z → X ξ μ (pc + 1) ls (.int (x / y) :: st) sh M kc ks Q) : X ξ μ pc ls (.int y :: .int x :: st) sh M kc ks Q := by
  by_cases hy : y = 0
  · rw [if_pos hy] at h; cases h
  · rw [if_neg hy] at h; exact X_idiv hy hd (k h)
theorem X_iremG {x y : Int32} {a : Option α} (hd : decode μ.2.1 pc = .ok (.irem, 1)) (h : (if y = 0 then none else a) = some z) (k : a = some z → X ξ μ (pc + 1) ls (.int (x - x / y * y) :: st) sh M kc ks Q) : X ξ μ pc ls (.int y :: .int x :: st) sh M kc ks Q := by
  by_cases hy : y = 0
  · rw [if_pos hy] at h; cases h
  · rw [if_neg hy] at h; exact X_irem hy hd (k h)
end XR
end
section
section XF
variable {p : Program} {l : Launch} {e : Env} {R : Room} {s : State} {m : MethodId} {args : Array Value} {below : List Frame} {meth : Method} {c : Code} {H : Heap} {locs : List Loc} {cells slots : Nat} {Q : State → Prop}
variable {cc : ByteArray} {pc : Nat} {ls : Array Slot} {rest : List Value} {D : va_G} {cl : List vw_C} {A : Nat → Prop} {a : Nat} {tys : List (ClassId × FieldType)} {ws : va_W} {H0 : Heap}
/-- a field is written (not final): va_put with the heap's size -/
theorem x_put (hexec : p.tables.exec = Jvm.exec) (hb : c.code = cc) {own ref C : String} {T : u_T} {N ci index : Nat} {Ts : List Cond} (hts : ∀ w ∈ Ts, w.before args s = true) (hin : ∀ w ∈ u_ws C T N, w ∈ Ts) (ty0 : Nat → FieldType) (hty : ∀ k, k < N → parseFieldDescriptor (T k).2.2.1 = some (ty0 k)) (hnm : ∀ a, a < N → ∀ b, b < N → a ≠ b → (T a).2.1 ≠ (T b).2.1) (hown : s.vm.findClass own = some m.cls) (hK : va_K D cl tys s) (hP : va_P D cl ws H) (hD : va_D A ws) (hS0 : va_S A H0 H locs) (q0 : Nat) {fs : List Value} (he : ws[q0]? = some (a, .inr (ci, fs))) (hc : cl[ci]? = some (C, T, N)) (k : Nat) (hk : k < N) (hlink : (Cond.fieldLink own index ref (T k).2.1 (T k).2.2.1).before args s = true) (hsame : ∀ x, s.fieldFound? (T k).1 (T k).2.1 (T k).2.2.1 = some x → s.fieldFound? ref (T k).2.1 (T k).2.2.1 = some x) (hfin : (T k).2.2.2 = false) {ty : FieldType} {v : Value} (hd : parseFieldDescriptor (T k).2.2.1 = some ty) (hn : narrow ty v = v) (hfit : fits ty v = true) (hl : k < fs.length)
    (hdg : decode cc pc = .ok (.putfield index, 3)) (kk : ∀ (H1 : Heap) (locs1 : List Loc), H1.size = H.size → va_P D cl (ws.set q0 (a, .inr (ci, fs.set k v))) H1 → va_D A (ws.set q0 (a, .inr (ci, fs.set k v))) → va_S A H0 H1 locs1 → W p l e R s m args below meth c H1 locs1 cells slots Q (F0 m (pc + 3) ls rest)) : W p l e R s m args below meth c H locs cells slots Q (F0 m pc ls (v :: .ref a :: rest)) := by
  have hap := va_apart (own := own) hts hin ty0 hty hnm hK hc
  obtain ⟨r, h1, cell, q1, q2, q3, q4⟩ := hP q0 _ he
  have hr : r = (C, T, N) := Option.some.inj (h1.symm.trans hc)
  subst hr
  obtain ⟨hS, hfc, kC, hkC, hkind⟩ := hK.1 ci _ hc
  obtain ⟨cf, kf, fi, f, hi, hsl⟩ := hS k hk
  have hlay := hts _ (hin _ (u_in_lay hk))
  unfold u_lay at hlay
  rw [if_neg (by rw [hfin]; decide)] at hlay
  have hst := (u_facts hfc hkC (u_lays hts hin hk) hi).1
  have h6 := u_store hfc hkC hkind hlay hi hd hn hfit
  refine W.putK hexec hb (f := f) ⟨hown, hlink, ⟨_, _, _, hsame _ hi⟩, hst⟩ (by rw [q2]; exact h6) q1 q3 (by rw [hsl]; exact k2_hasslot (q4 k hk)) rfl rfl hdg fun H' e1 e2 e3 => ?_
  rw [hsl] at e1 ⊢
  exact kk H' _ e2 (hP.set hD he ⟨_, hc, t_OB.to (V := updV (vp_V fs) k v) ⟨_, e1, q2, q3, t_set q4 hap hk v⟩ (fun j _ => vp_updV_set hl v j)⟩ e3) (hD.set he) (hS0.put e2 e3 (hD.2 q0 _ he))
theorem x_putN (hexec : p.tables.exec = Jvm.exec) (hb : c.code = cc) {own ref C host : String} {T : u_T} {N ci index : Nat} {Ts : List Cond} (hts : ∀ w ∈ Ts, w.before args s = true) (hin : ∀ w ∈ u_ws C T N, w ∈ Ts) (ty0 : Nat → FieldType) (hty : ∀ k, k < N → parseFieldDescriptor (T k).2.2.1 = some (ty0 k)) (hnm : ∀ a, a < N → ∀ b, b < N → a ≠ b → (T a).2.1 ≠ (T b).2.1) (hown : s.vm.findClass own = some m.cls) (hK : va_K D cl tys s) (hP : va_P D cl ws H) (hD : va_D A ws) (hS0 : va_S A H0 H locs) (q0 : Nat) {fs : List Value} (he : ws[q0]? = some (a, .inr (ci, fs))) (hc : cl[ci]? = some (C, T, N)) (k : Nat) (hk : k < N) (hlink : (Cond.fieldLinkNest own index ref (T k).2.1 (T k).2.2.1 host).before args s = true) (hsame : ∀ x, s.fieldFound? (T k).1 (T k).2.1 (T k).2.2.1 = some x → s.fieldFound? ref (T k).2.1 (T k).2.2.1 = some x) (hfin : (T k).2.2.2 = false) {ty : FieldType} {v : Value} (hd : parseFieldDescriptor (T k).2.2.1 = some ty) (hn : narrow ty v = v) (hfit : fits ty v = true) (hl : k < fs.length)
    (hdg : decode cc pc = .ok (.putfield index, 3)) (kk : ∀ (H1 : Heap) (locs1 : List Loc), H1.size = H.size → va_P D cl (ws.set q0 (a, .inr (ci, fs.set k v))) H1 → va_D A (ws.set q0 (a, .inr (ci, fs.set k v))) → va_S A H0 H1 locs1 → W p l e R s m args below meth c H1 locs1 cells slots Q (F0 m (pc + 3) ls rest)) : W p l e R s m args below meth c H locs cells slots Q (F0 m pc ls (v :: .ref a :: rest)) := by
  have hap := va_apart (own := own) hts hin ty0 hty hnm hK hc
  obtain ⟨r, h1, cell, q1, q2, q3, q4⟩ := hP q0 _ he
  have hr : r = (C, T, N) := Option.some.inj (h1.symm.trans hc)
  subst hr
  obtain ⟨hS, hfc, kC, hkC, hkind⟩ := hK.1 ci _ hc
  obtain ⟨cf, kf, fi, f, hi, hsl⟩ := hS k hk
  have hlay := hts _ (hin _ (u_in_lay hk))
  unfold u_lay at hlay
  rw [if_neg (by rw [hfin]; decide)] at hlay
  have hst := (u_facts hfc hkC (u_lays hts hin hk) hi).1
  have h6 := u_store hfc hkC hkind hlay hi hd hn hfit
  refine va_WputK hexec hb (f := f) hown hlink (hsame _ hi) hst (by rw [q2]; exact h6) q1 q3 (by rw [hsl]; exact k2_hasslot (q4 k hk)) rfl rfl hdg fun H' e1 e2 e3 => ?_
  rw [hsl] at e1 ⊢
  exact kk H' _ e2 (hP.set hD he ⟨_, hc, t_OB.to (V := updV (vp_V fs) k v) ⟨_, e1, q2, q3, t_set q4 hap hk v⟩ (fun j _ => vp_updV_set hl v j)⟩ e3) (hD.set he) (hS0.put e2 e3 (hD.2 q0 _ he))
theorem x_putF (hexec : p.tables.exec = Jvm.exec) (hb : c.code = cc) {own ref C : String} {T : u_T} {N ci index : Nat} {Ts : List Cond} (hts : ∀ w ∈ Ts, w.before args s = true) (hin : ∀ w ∈ u_ws C T N, w ∈ Ts) (ty0 : Nat → FieldType) (hty : ∀ k, k < N → parseFieldDescriptor (T k).2.2.1 = some (ty0 k)) (hnm : ∀ a, a < N → ∀ b, b < N → a ≠ b → (T a).2.1 ≠ (T b).2.1) (hown : s.vm.findClass own = some m.cls) (hK : va_K D cl tys s) (hP : va_P D cl ws H) (hD : va_D A ws) (hS0 : va_S A H0 H locs) (q0 : Nat) {fs : List Value} (he : ws[q0]? = some (a, .inr (ci, fs))) (hc : cl[ci]? = some (C, T, N)) (k : Nat) (hk : k < N) (hlink : (Cond.fieldLink own index ref (T k).2.1 (T k).2.2.1).before args s = true) (hsame : ∀ x, s.fieldFound? (T k).1 (T k).2.1 (T k).2.2.1 = some x → s.fieldFound? ref (T k).2.1 (T k).2.2.1 = some x) (hfin : (T k).2.2.2 = true) (hin2 : meth.name = "<init>") (hdecl : (T k).1 = own) {ty : FieldType} {v : Value} (hd : parseFieldDescriptor (T k).2.2.1 = some ty) (hn : narrow ty v = v) (hfit : fits ty v = true) (hl : k < fs.length)
    (hdg : decode cc pc = .ok (.putfield index, 3)) (kk : ∀ (H1 : Heap) (locs1 : List Loc), H1.size = H.size → va_P D cl (ws.set q0 (a, .inr (ci, fs.set k v))) H1 → va_D A (ws.set q0 (a, .inr (ci, fs.set k v))) → va_S A H0 H1 locs1 → W p l e R s m args below meth c H1 locs1 cells slots Q (F0 m (pc + 3) ls rest)) : W p l e R s m args below meth c H locs cells slots Q (F0 m pc ls (v :: .ref a :: rest)) := by
  have hap := va_apart (own := own) hts hin ty0 hty hnm hK hc
  obtain ⟨r, h1, cell, q1, q2, q3, q4⟩ := hP q0 _ he
  have hr : r = (C, T, N) := Option.some.inj (h1.symm.trans hc)
  subst hr
  obtain ⟨hS, hfc, kC, hkC, hkind⟩ := hK.1 ci _ hc
  obtain ⟨cf, kf, fi, f, hi, hsl⟩ := hS k hk
  have hlay := hts _ (hin _ (u_in_lay hk))
  unfold u_lay at hlay
  rw [if_pos hfin] at hlay
  have hst := (u_facts hfc hkC (u_lays hts hin hk) hi).1
  have hcf : m.cls = cf := by
    obtain ⟨_, _, c', _, _, _, -, -, hf', -, -, -, hown2, -⟩ := Cond.laysFinal_spec hlay
    have e1 : c' = cf := by have := hi.symm.trans hf'; simp at this; exact this.1.symm
    rw [hdecl] at hown2
    rw [← e1]; exact Option.some.inj (hown.symm.trans hown2)
  have h6 := u_fits hfc hkC hkind (Or.inr hlay) hi hd hn hfit
  refine W.putFinK hexec hb hown hlink (hsame _ hi) hst hcf hin2 (by rw [q2]; exact h6) q1 q3 (by rw [hsl]; exact k2_hasslot (q4 k hk)) rfl rfl hdg fun H' e1 e2 e3 => ?_
  rw [hsl] at e1 ⊢
  exact kk H' _ e2 (hP.set hD he ⟨_, hc, t_OB.to (V := updV (vp_V fs) k v) ⟨_, e1, q2, q3, t_set q4 hap hk v⟩ (fun j _ => vp_updV_set hl v j)⟩ e3) (hD.set he) (hS0.put e2 e3 (hD.2 q0 _ he))
theorem x_iast (hexec : p.tables.exec = Jvm.exec) (hb : c.code = cc) (hK : va_K D cl tys s) (hP : va_P D cl ws H) (hD : va_D A ws) (hS : va_S A H0 H locs) (q0 t0 : Nat) {cA : ClassId} {n : Nat} {f : Nat → Int32} (ha : ws[q0]? = some (a, .inl (cA, n, .inl f))) (ht : tys[t0]? = some (cA, .int)) {i : Int32} {x : Int32} (hin : vp_in i n) (hdg : decode cc pc = .ok (.iastore, 1))
    (kk : ∀ (H1 : Heap) (locs1 : List Loc), H1.size = H.size → va_P D cl (ws.set q0 (a, .inl (cA, n, .inl (upd f i.toNatClampNeg x)))) H1 → va_D A (ws.set q0 (a, .inl (cA, n, .inl (upd f i.toNatClampNeg x)))) → va_S A H0 H1 locs1 → W p l e R s m args below meth c H1 locs1 cells slots Q (F0 m (pc + 1) ls rest)) : W p l e R s m args below meth c H locs cells slots Q (F0 m pc ls (.int x :: .int i :: .ref a :: rest)) := by
  refine W.iast hexec hb (hP q0 _ ha) ((hK.2 t0 _ ht).1 n (fun j => .int (f j))) (fun q => by cases q) (by show ¬ (i < 0 ∨ (arrV _ _ _).slots.size ≤ _); rw [arrV_size]; exact hin) rfl rfl hdg fun H1 e z oq => ?_
  refine kk H1 _ z (hP.set hD ha ?_ oq) (hD.set ha) (hS.put z oq (hD.2 q0 _ ha))
  show H1[a]? = some (vp_cell _ _)
  rw [e]
  rw [vp_cell_i, vp_cell_i, arrV_store]
  congr 2
  funext q
  by_cases hq : q = i.toNatClampNeg
  · subst hq
    simp [updV, upd]
  · simp [updV, upd, hq]
theorem x_zast (hexec : p.tables.exec = Jvm.exec) (hb : c.code = cc) (hK : va_K D cl tys s) (hP : va_P D cl ws H) (hD : va_D A ws) (hS : va_S A H0 H locs) (q0 t0 : Nat) {cA : ClassId} {n : Nat} {f : Nat → Int32} (ha : ws[q0]? = some (a, .inl (cA, n, .inl f))) (ht : tys[t0]? = some (cA, .boolean)) {i : Int32} {x : Int32} (hx : vp_nar .boolean x = x) (hin : vp_in i n) (hdg : decode cc pc = .ok (.bastore, 1))
    (kk : ∀ (H1 : Heap) (locs1 : List Loc), H1.size = H.size → va_P D cl (ws.set q0 (a, .inl (cA, n, .inl (upd f i.toNatClampNeg x)))) H1 → va_D A (ws.set q0 (a, .inl (cA, n, .inl (upd f i.toNatClampNeg x)))) → va_S A H0 H1 locs1 → W p l e R s m args below meth c H1 locs1 cells slots Q (F0 m (pc + 1) ls rest)) : W p l e R s m args below meth c H locs cells slots Q (F0 m pc ls (.int x :: .int i :: .ref a :: rest)) := by
  refine W.zast hexec hb (hP q0 _ ha) ((hK.2 t0 _ ht).1 n (fun j => .int (f j))) (fun q => by cases q) (by show ¬ (i < 0 ∨ (arrV _ _ _).slots.size ≤ _); rw [arrV_size]; exact hin) rfl rfl hdg fun H1 e z oq => ?_
  refine kk H1 _ z (hP.set hD ha ?_ oq) (hD.set ha) (hS.put z oq (hD.2 q0 _ ha))
  show H1[a]? = some (vp_cell _ _)
  rw [e]
  rw [vp_cell_i, vp_cell_i, arrV_store]
  congr 2
  funext q
  by_cases hq : q = i.toNatClampNeg
  · subst hq
    simp [updV, upd]
    have h9 : vp_nar .boolean x = x := hx
    simpa [vp_nar, narrow] using h9
  · simp [updV, upd, hq]
end XF
end
section
section XM
variable {ξ : xX} {μ μ' : xD} {pc : Nat} {ls st : List Value} {sh : List xS} {M : xM} {kc ks : Nat} {Q : Option Value → List xS → xM → Prop} {α β : Type} {z : α}
def xF (own : String) (idx ci j : Nat) (ty : FieldType) (fin nest : Bool) : Prop := ∃ (C : String) (T : u_T) (N : Nat) (ty0 : Nat → FieldType) (host : String), vwCl[ci]? = some (C, T, N) ∧ j < N ∧ (∀ w ∈ u_ws C T N, w ∈ xTW) ∧ (∀ k, k < N → parseFieldDescriptor (T k).2.2.1 = some (ty0 k)) ∧ (∀ a, a < N → ∀ b, b < N → a ≠ b → (T a).2.1 ≠ (T b).2.1) ∧ (T j).2.2.2 = fin ∧ parseFieldDescriptor (T j).2.2.1 = some ty ∧ (T j).1 = C ∧ ((nest = false ∧ Cond.fieldLink own idx (T j).1 (T j).2.1 (T j).2.2.1 ∈ xTW) ∨ (nest = true ∧ Cond.fieldLinkNest own idx (T j).1 (T j).2.1 (T j).2.2.1 host ∈ lw_tbl))
theorem X_get {k0 idx ci j : Nat} {ty : FieldType} {fin nest : Bool} {fs : List (Option (Option Nat))} {o : Option (Option Nat)} {v : Value} (hF : xF μ.1.cls idx ci j ty fin nest) (hsh : sh[k0]? = some (.inr (ci, fs))) (hf : fs[j]? = some o) (hv : (match o with | none => .int (M k0 j) | some r => va_rf r) = v) (hd : decode μ.2.1 pc = .ok (.getfield idx, 3)) (k : X ξ μ (pc + 3) ls (v :: st) sh M kc ks Q) : X ξ μ pc ls (.ref k0 :: st) sh M kc ks Q := by
  intro l dC dI cI cZ cS B sa A p e s m args below meth c H locs arr hC hE hW hS hL
  obtain ⟨C, T, N, ty0, host, h1, h2, h3, h4, h5, h6, h7, h8, h9⟩ := hF
  have he := x_ws_at (cI := cI) (cZ := cZ) (cS := cS) (B := B) (M := M) hsh
  have hg : (fs.mapIdx (x_val B (M k0)))[j]? = some (x_g B sa v) := by
    subst hv
    simp only [List.getElem?_mapIdx, hf, Option.map_some]
    cases o with
    | none => rfl
    | some r => simp only [x_val, x_g_rf]
  rcases h9 with ⟨-, h9⟩ | ⟨-, h9⟩
  · exact va_get hC.1 hC.2.1 hC.2.2.2.2.2.2.2 h3 hC.2.2.2.2.1 hW.1 hW.2.1 k0 he h1 j h2 (hC.2.2.2.2.2.2.2 _ h9) (fun _ h => h) hg hd (k l dC dI cI cZ cS B sa A p e s m args below meth c H locs arr hC hE hW hS hL)
  · exact va_getN hC.1 hC.2.1 hC.2.2.2.2.2.2.2 h3 hC.2.2.2.2.1 hW.1 hW.2.1 k0 he h1 j h2 (va_Nw.use rfl (hE.1 _ h9 rfl)) (fun _ h => h) hg hd (k l dC dI cI cZ cS B sa A p e s m args below meth c H locs arr hC hE hW hS hL)
theorem X_putI {k0 idx ci j : Nat} {ty : FieldType} {nest : Bool} {fs : List (Option (Option Nat))} {v : Int32} {g : xM → Option α} (hF : xF μ.1.cls idx ci j ty false nest) (hsh : sh[k0]? = some (.inr (ci, fs))) (hf : fs[j]? = some none) (hn : narrow ty (.int v) = .int v) (hfit : fits ty (.int v) = true) (hd : decode μ.2.1 pc = .ok (.putfield idx, 3)) (h : xl (xw M k0 j v) g = some z) (k : ∀ M1 : xM, g M1 = some z → X ξ μ (pc + 3) ls st sh M1 kc ks Q) : X ξ μ pc ls (.int v :: .ref k0 :: st) sh M kc ks Q := by
  intro l dC dI cI cZ cS B sa A p e s m args below meth c H locs arr hC hE hW hS hL
  obtain ⟨C, T, N, ty0, host, h1, h2, h3, h4, h5, h6, h7, h8, h9⟩ := hF
  have he := x_ws_at (cI := cI) (cZ := cZ) (cS := cS) (B := B) (M := M) hsh
  have hl : j < (fs.mapIdx (x_val B (M k0))).length := by simpa using (List.getElem?_eq_some_iff.mp hf).1
  have e1 : (x_ws cI cZ cS B sh M).set k0 (B + k0, .inr (ci, (fs.mapIdx (x_val B (M k0))).set j (.int v))) = x_ws cI cZ cS B sh (xw M k0 j v) := x_ws_set hsh (fun i hi => xw_ne hi) (by rw [xw_upd]; show (Sum.inr (ci, _) : va_E) = _; rw [x_obj_set hf])
  rcases h9 with ⟨-, h9⟩ | ⟨-, h9⟩
  · refine x_put hC.1 hC.2.1 hC.2.2.2.2.2.2.2 h3 ty0 h4 h5 hC.2.2.2.2.1 hW.1 hW.2.1 hW.2.2.1 hS k0 he h1 j h2 (hC.2.2.2.2.2.2.2 _ h9) (fun _ h => h) h6 h7 hn hfit hl hd (fun H1 locs1 hz hP hD hS1 => ?_)
    have hP : va_P (dC, dI) vwCl (x_ws cI cZ cS B sh (xw M k0 j v)) H1 := by rw [← e1]; exact hP
    have hD : va_D A (x_ws cI cZ cS B sh (xw M k0 j v)) := by rw [← e1]; exact hD
    exact k (xw M k0 j v) h l dC dI cI cZ cS B sa A p e s m args below meth c H1 locs1 arr hC hE ⟨hW.1, hP, hD, hz.trans hW.2.2.2⟩ hS1 hL
  · refine x_putN hC.1 hC.2.1 hC.2.2.2.2.2.2.2 h3 ty0 h4 h5 hC.2.2.2.2.1 hW.1 hW.2.1 hW.2.2.1 hS k0 he h1 j h2 (va_Nw.use rfl (hE.1 _ h9 rfl)) (fun _ h => h) h6 h7 hn hfit hl hd (fun H1 locs1 hz hP hD hS1 => ?_)
    have hP : va_P (dC, dI) vwCl (x_ws cI cZ cS B sh (xw M k0 j v)) H1 := by rw [← e1]; exact hP
    have hD : va_D A (x_ws cI cZ cS B sh (xw M k0 j v)) := by rw [← e1]; exact hD
    exact k (xw M k0 j v) h l dC dI cI cZ cS B sa A p e s m args below meth c H1 locs1 arr hC hE ⟨hW.1, hP, hD, hz.trans hW.2.2.2⟩ hS1 hL
/-- a final field of numbers, in a constructor -/
theorem X_putFI {k0 idx ci j : Nat} {ty : FieldType} {fs : List (Option (Option Nat))} {v : Int32} {g : xM → Option α} (hF : xF μ.1.cls idx ci j ty true false) (hin : μ.1.name = "<init>") (hC0 : ∀ q, vwCl[ci]? = some q → q.1 = μ.1.cls) (hsh : sh[k0]? = some (.inr (ci, fs))) (hf : fs[j]? = some none) (hn : narrow ty (.int v) = .int v) (hfit : fits ty (.int v) = true) (hd : decode μ.2.1 pc = .ok (.putfield idx, 3)) (h : xl (xw M k0 j v) g = some z) (k : ∀ M1 : xM, g M1 = some z → X ξ μ (pc + 3) ls st sh M1 kc ks Q) : X ξ μ pc ls (.int v :: .ref k0 :: st) sh M kc ks Q := by
  intro l dC dI cI cZ cS B sa A p e s m args below meth c H locs arr hC hE hW hS hL
  obtain ⟨C, T, N, ty0, host, h1, h2, h3, h4, h5, h6, h7, h8, h9⟩ := hF
  have he := x_ws_at (cI := cI) (cZ := cZ) (cS := cS) (B := B) (M := M) hsh
  have hl : j < (fs.mapIdx (x_val B (M k0))).length := by simpa using (List.getElem?_eq_some_iff.mp hf).1
  have e1 : (x_ws cI cZ cS B sh M).set k0 (B + k0, .inr (ci, (fs.mapIdx (x_val B (M k0))).set j (.int v))) = x_ws cI cZ cS B sh (xw M k0 j v) := x_ws_set hsh (fun i hi => xw_ne hi) (by rw [xw_upd]; show (Sum.inr (ci, _) : va_E) = _; rw [x_obj_set hf])
  rcases h9 with ⟨-, h9⟩ | ⟨h0, -⟩
  · refine x_putF hC.1 hC.2.1 hC.2.2.2.2.2.2.2 h3 ty0 h4 h5 hC.2.2.2.2.1 hW.1 hW.2.1 hW.2.2.1 hS k0 he h1 j h2 (hC.2.2.2.2.2.2.2 _ h9) (fun _ h => h) h6 (hC.2.2.2.2.2.2.1.trans hin) (h8.trans (hC0 _ h1)) h7 hn hfit hl hd (fun H1 locs1 hz hP hD hS1 => ?_)
    have hP : va_P (dC, dI) vwCl (x_ws cI cZ cS B sh (xw M k0 j v)) H1 := by rw [← e1]; exact hP
    have hD : va_D A (x_ws cI cZ cS B sh (xw M k0 j v)) := by rw [← e1]; exact hD
    exact k (xw M k0 j v) h l dC dI cI cZ cS B sa A p e s m args below meth c H1 locs1 arr hC hE ⟨hW.1, hP, hD, hz.trans hW.2.2.2⟩ hS1 hL
  · cases h0
/-- a final field that refers, in a constructor: the shape is told -/
theorem X_putFR {k0 idx ci j : Nat} {ty : FieldType} {fs : List (Option (Option Nat))} {o : Option (Option Nat)} {q : Nat} (sh' : List xS) (hF : xF μ.1.cls idx ci j ty true false) (hin : μ.1.name = "<init>") (hC0 : ∀ q, vwCl[ci]? = some q → q.1 = μ.1.cls) (hsh : sh[k0]? = some (.inr (ci, fs))) (hf : fs[j]? = some o) (hn : ∀ a : Nat, narrow ty (.ref a) = .ref a) (hfit : ∀ a : Nat, fits ty (.ref a) = true) (hsh' : sh.set k0 (.inr (ci, fs.set j (some (some q)))) = sh') (hd : decode μ.2.1 pc = .ok (.putfield idx, 3)) (k : X ξ μ (pc + 3) ls st sh' M kc ks Q) : X ξ μ pc ls (.ref q :: .ref k0 :: st) sh M kc ks Q := by
  intro l dC dI cI cZ cS B sa A p e s m args below meth c H locs arr hC hE hW hS hL
  subst hsh'
  obtain ⟨C, T, N, ty0, host, h1, h2, h3, h4, h5, h6, h7, h8, h9⟩ := hF
  have he := x_ws_at (cI := cI) (cZ := cZ) (cS := cS) (B := B) (M := M) hsh
  have hl : j < (fs.mapIdx (x_val B (M k0))).length := by simpa using (List.getElem?_eq_some_iff.mp hf).1
  have e1 : (x_ws cI cZ cS B sh M).set k0 (B + k0, .inr (ci, (fs.mapIdx (x_val B (M k0))).set j (.ref (B + q)))) = x_ws cI cZ cS B (sh.set k0 (.inr (ci, fs.set j (some (some q))))) M := x_ws_setS hsh (by show (Sum.inr (ci, _) : va_E) = _; rw [x_obj_setR hf]; rfl)
  rcases h9 with ⟨-, h9⟩ | ⟨h0, -⟩
  · refine x_putF hC.1 hC.2.1 hC.2.2.2.2.2.2.2 h3 ty0 h4 h5 hC.2.2.2.2.1 hW.1 hW.2.1 hW.2.2.1 hS k0 he h1 j h2 (hC.2.2.2.2.2.2.2 _ h9) (fun _ h => h) h6 (hC.2.2.2.2.2.2.1.trans hin) (h8.trans (hC0 _ h1)) h7 (hn _) (hfit _) hl hd (fun H1 locs1 hz hP hD hS1 => ?_)
    have hP : va_P (dC, dI) vwCl (x_ws cI cZ cS B (sh.set k0 (.inr (ci, fs.set j (some (some q))))) M) H1 := by rw [← e1]; exact hP
    have hD : va_D A (x_ws cI cZ cS B (sh.set k0 (.inr (ci, fs.set j (some (some q))))) M) := by rw [← e1]; exact hD
    exact k l dC dI cI cZ cS B sa A p e s m args below meth c H1 locs1 arr hC hE ⟨hW.1, hP, hD, by rw [hz, hW.2.2.2, List.length_set]⟩ hS1 hL
  · cases h0
theorem X_alen {k0 tg n : Nat} {rs : List (Option Nat)} (v : Int32) (hsh : sh[k0]? = some (.inl (tg, n, rs))) (hv : Int32.ofNat n = v) (hd : decode μ.2.1 pc = .ok (.arraylength, 1)) (k : X ξ μ (pc + 1) ls (.int v :: st) sh M kc ks Q) : X ξ μ pc ls (.ref k0 :: st) sh M kc ks Q := by
  intro l dC dI cI cZ cS B sa A p e s m args below meth c H locs arr hC hE hW hS hL
  have he := x_ws_at (cI := cI) (cZ := cZ) (cS := cS) (B := B) (M := M) hsh
  match tg, he with
  | 0, he => exact va_alen hC.1 hC.2.1 hW.1 hW.2.1 k0 0 (x := (n, _)) he rfl hv hd (k l dC dI cI cZ cS B sa A p e s m args below meth c H locs arr hC hE hW hS hL)
  | 1, he => exact va_alen hC.1 hC.2.1 hW.1 hW.2.1 k0 1 (x := (n, _)) he rfl hv hd (k l dC dI cI cZ cS B sa A p e s m args below meth c H locs arr hC hE hW hS hL)
  | tg + 2, he => exact va_alen hC.1 hC.2.1 hW.1 hW.2.1 k0 2 (x := (n, _)) he rfl hv hd (k l dC dI cI cZ cS B sa A p e s m args below meth c H locs arr hC hE hW hS hL)
theorem X_iald {k0 n : Nat} {rs : List (Option Nat)} {i : Int32} {a : Option α} (hsh : sh[k0]? = some (.inl (0, n, rs))) (hd : decode μ.2.1 pc = .ok (.iaload, 1)) (h : xgd (xin i n) a = some z) (k : a = some z → X ξ μ (pc + 1) ls (.int (M k0 i.toNatClampNeg) :: st) sh M kc ks Q) : X ξ μ pc ls (.int i :: .ref k0 :: st) sh M kc ks Q := by
  intro l dC dI cI cZ cS B sa A p e s m args below meth c H locs arr hC hE hW hS hL
  obtain ⟨hi, h⟩ := xgd_some h
  have he := x_ws_at (cI := cI) (cZ := cZ) (cS := cS) (B := B) (M := M) hsh
  exact va_iald hC.1 hC.2.1 hW.1 hW.2.1 k0 0 he rfl (xin_vp hi) hd (k h l dC dI cI cZ cS B sa A p e s m args below meth c H locs arr hC hE hW hS hL)
theorem X_zald {k0 n : Nat} {rs : List (Option Nat)} {i : Int32} {a : Option α} (hsh : sh[k0]? = some (.inl (1, n, rs))) (hd : decode μ.2.1 pc = .ok (.baload, 1)) (h : xgd (xin i n) a = some z) (k : a = some z → X ξ μ (pc + 1) ls (.int (M k0 i.toNatClampNeg) :: st) sh M kc ks Q) : X ξ μ pc ls (.int i :: .ref k0 :: st) sh M kc ks Q := by
  intro l dC dI cI cZ cS B sa A p e s m args below meth c H locs arr hC hE hW hS hL
  obtain ⟨hi, h⟩ := xgd_some h
  have he := x_ws_at (cI := cI) (cZ := cZ) (cS := cS) (B := B) (M := M) hsh
  exact va_zald hC.1 hC.2.1 hW.1 hW.2.1 k0 1 he rfl (xin_vp hi) hd (k h l dC dI cI cZ cS B sa A p e s m args below meth c H locs arr hC hE hW hS hL)
theorem X_aald {k0 n : Nat} {rs : List (Option Nat)} {i : Int32} (r : Option Nat) (hsh : sh[k0]? = some (.inl (2, n, rs))) (hi : xin i n = true) (hr : (rs[i.toNatClampNeg]?).getD none = r) (hd : decode μ.2.1 pc = .ok (.aaload, 1)) (k : X ξ μ (pc + 1) ls (va_rf r :: st) sh M kc ks Q) : X ξ μ pc ls (.int i :: .ref k0 :: st) sh M kc ks Q := by
  intro l dC dI cI cZ cS B sa A p e s m args below meth c H locs arr hC hE hW hS hL
  have he := x_ws_at (cI := cI) (cZ := cZ) (cS := cS) (B := B) (M := M) hsh
  have k2 := (k l dC dI cI cZ cS B sa A p e s m args below meth c H locs arr hC hE hW hS hL)
  rw [List.map_cons, x_g_rf] at k2
  subst hr
  exact va_aldq hC.1 hC.2.1 hW.1 hW.2.1 k0 2 he rfl (xin_vp hi) hd k2
theorem X_iast {k0 n : Nat} {rs : List (Option Nat)} {i v : Int32} {g : xM → Option α} (hsh : sh[k0]? = some (.inl (0, n, rs))) (hd : decode μ.2.1 pc = .ok (.iastore, 1)) (h : xgd (xin i n) (xl (xw M k0 i.toNatClampNeg v) g) = some z) (k : ∀ M1 : xM, g M1 = some z → X ξ μ (pc + 1) ls st sh M1 kc ks Q) : X ξ μ pc ls (.int v :: .int i :: .ref k0 :: st) sh M kc ks Q := by
  intro l dC dI cI cZ cS B sa A p e s m args below meth c H locs arr hC hE hW hS hL
  obtain ⟨hi, h⟩ := xgd_some h
  have he := x_ws_at (cI := cI) (cZ := cZ) (cS := cS) (B := B) (M := M) hsh
  have e1 : (x_ws cI cZ cS B sh M).set k0 (B + k0, .inl (cI, n, .inl (upd (M k0) i.toNatClampNeg v))) = x_ws cI cZ cS B sh (xw M k0 i.toNatClampNeg v) := x_ws_set hsh (fun i hi => xw_ne hi) (by rw [xw_upd]; rfl)
  refine x_iast hC.1 hC.2.1 hW.1 hW.2.1 hW.2.2.1 hS k0 0 he rfl (xin_vp hi) hd (fun H1 locs1 hz hP hD hS1 => ?_)
  have hP : va_P (dC, dI) vwCl (x_ws cI cZ cS B sh (xw M k0 i.toNatClampNeg v)) H1 := by rw [← e1]; exact hP
  have hD : va_D A (x_ws cI cZ cS B sh (xw M k0 i.toNatClampNeg v)) := by rw [← e1]; exact hD
  exact k _ h l dC dI cI cZ cS B sa A p e s m args below meth c H1 locs1 arr hC hE ⟨hW.1, hP, hD, hz.trans hW.2.2.2⟩ hS1 hL
theorem X_zast {k0 n : Nat} {rs : List (Option Nat)} {i v : Int32} {g : xM → Option α} (hsh : sh[k0]? = some (.inl (1, n, rs))) (hx : vp_nar .boolean v = v) (hd : decode μ.2.1 pc = .ok (.bastore, 1)) (h : xgd (xin i n) (xl (xw M k0 i.toNatClampNeg v) g) = some z) (k : ∀ M1 : xM, g M1 = some z → X ξ μ (pc + 1) ls st sh M1 kc ks Q) : X ξ μ pc ls (.int v :: .int i :: .ref k0 :: st) sh M kc ks Q := by
  intro l dC dI cI cZ cS B sa A p e s m args below meth c H locs arr hC hE hW hS hL
  obtain ⟨hi, h⟩ := xgd_some h
  have he := x_ws_at (cI := cI) (cZ := cZ) (cS := cS) (B := B) (M := M) hsh
  have e1 : (x_ws cI cZ cS B sh M).set k0 (B + k0, .inl (cZ, n, .inl (upd (M k0) i.toNatClampNeg v))) = x_ws cI cZ cS B sh (xw M k0 i.toNatClampNeg v) := x_ws_set hsh (fun i hi => xw_ne hi) (by rw [xw_upd]; rfl)
  refine x_zast hC.1 hC.2.1 hW.1 hW.2.1 hW.2.2.1 hS k0 1 he rfl hx (xin_vp hi) hd (fun H1 locs1 hz hP hD hS1 => ?_)
  have hP : va_P (dC, dI) vwCl (x_ws cI cZ cS B sh (xw M k0 i.toNatClampNeg v)) H1 := by rw [← e1]; exact hP
  have hD : va_D A (x_ws cI cZ cS B sh (xw M k0 i.toNatClampNeg v)) := by rw [← e1]; exact hD
  exact k _ h l dC dI cI cZ cS B sa A p e s m args below meth c H1 locs1 arr hC hE ⟨hW.1, hP, hD, hz.trans hW.2.2.2⟩ hS1 hL
/-- the static arrays, and the law's script -/
def xGs (own : String) (idx : Nat) (C n : String) : Prop := Cond.fieldLink own idx C n "[I" ∈ xTW
theorem X_gets1 {idx : Nat} (hg : xGs μ.1.cls idx "SoundArchive$Kinds" "SPEEDS") (hd : decode μ.2.1 pc = .ok (.getstatic idx, 3)) (k : X ξ μ (pc + 3) ls (.float 1 :: st) sh M kc ks Q) : X ξ μ pc ls st sh M kc ks Q := by
  intro l dC dI cI cZ cS B sa A p e s m args below meth c H locs arr hC hE hW hS hL
  exact va_gets hC.1 hC.2.1 hE.2.2.1 hS hC.2.2.2.2.1 (hC.2.2.2.2.2.2.2 _ hg) (fun _ h => h) hd (k l dC dI cI cZ cS B sa A p e s m args below meth c H locs arr hC hE hW hS hL)
theorem X_gets2 {idx : Nat} (hg : xGs μ.1.cls idx "SoundArchive$Layouts" "STRIPS") (hd : decode μ.2.1 pc = .ok (.getstatic idx, 3)) (k : X ξ μ (pc + 3) ls (.float 2 :: st) sh M kc ks Q) : X ξ μ pc ls st sh M kc ks Q := by
  intro l dC dI cI cZ cS B sa A p e s m args below meth c H locs arr hC hE hW hS hL
  exact va_gets hC.1 hC.2.1 hE.2.2.2.2.1 hS hC.2.2.2.2.1 (hC.2.2.2.2.2.2.2 _ hg) (fun _ h => h) hd (k l dC dI cI cZ cS B sa A p e s m args below meth c H locs arr hC hE hW hS hL)
theorem X_alen1 (hd : decode μ.2.1 pc = .ok (.arraylength, 1)) (k : X ξ μ (pc + 1) ls (.int 9 :: st) sh M kc ks Q) : X ξ μ pc ls (.float 1 :: st) sh M kc ks Q := by
  intro l dC dI cI cZ cS B sa A p e s m args below meth c H locs arr hC hE hW hS hL
  exact va_tlen hC.1 hC.2.1 hE.2.2.2.1 hS rfl hd (k l dC dI cI cZ cS B sa A p e s m args below meth c H locs arr hC hE hW hS hL)
theorem X_alen2 (hd : decode μ.2.1 pc = .ok (.arraylength, 1)) (k : X ξ μ (pc + 1) ls (.int 16 :: st) sh M kc ks Q) : X ξ μ pc ls (.float 2 :: st) sh M kc ks Q := by
  intro l dC dI cI cZ cS B sa A p e s m args below meth c H locs arr hC hE hW hS hL
  exact va_tlen hC.1 hC.2.1 hE.2.2.2.2.2.1 hS rfl hd (k l dC dI cI cZ cS B sa A p e s m args below meth c H locs arr hC hE hW hS hL)
def xSpI (j : Nat) : Int32 := (([33, 45, 78, 95, 190, 380, 48, 0, 0] : List Int32)[j]?).getD 0
def xStI (j : Nat) : Int32 := (([15, 0, 0, 0, 3, 12, 0, 0, 1, 2, 4, 8, 1, 2, 4, 8] : List Int32)[j]?).getD 0
theorem X_iald1 {i : Int32} {a : Option α} (hd : decode μ.2.1 pc = .ok (.iaload, 1)) (h : xgd (xin i 9) a = some z) (k : a = some z → X ξ μ (pc + 1) ls (.int (xSpI i.toNatClampNeg) :: st) sh M kc ks Q) : X ξ μ pc ls (.int i :: .float 1 :: st) sh M kc ks Q := by
  intro l dC dI cI cZ cS B sa A p e s m args below meth c H locs arr hC hE hW hS hL
  obtain ⟨hi, h⟩ := xgd_some h
  exact va_ti hC.1 hC.2.1 hE.2.2.2.1 hS (xin_vp hi) (v := .int (xSpI i.toNatClampNeg)) rfl hd (k h l dC dI cI cZ cS B sa A p e s m args below meth c H locs arr hC hE hW hS hL)
theorem X_iald2 {i : Int32} {a : Option α} (hd : decode μ.2.1 pc = .ok (.iaload, 1)) (h : xgd (xin i 16) a = some z) (k : a = some z → X ξ μ (pc + 1) ls (.int (xStI i.toNatClampNeg) :: st) sh M kc ks Q) : X ξ μ pc ls (.int i :: .float 2 :: st) sh M kc ks Q := by
  intro l dC dI cI cZ cS B sa A p e s m args below meth c H locs arr hC hE hW hS hL
  obtain ⟨hi, h⟩ := xgd_some h
  exact va_ti hC.1 hC.2.1 hE.2.2.2.2.2.1 hS (xin_vp hi) (v := .int (xStI i.toNatClampNeg)) rfl hd (k h l dC dI cI cZ cS B sa A p e s m args below meth c H locs arr hC hE hW hS hL)
theorem X_alen3 (hd : decode μ.2.1 pc = .ok (.arraylength, 1)) (k : X ξ μ (pc + 1) ls (.int (Int32.ofNat ξ.1) :: st) sh M kc ks Q) : X ξ μ pc ls (.float 3 :: st) sh M kc ks Q := by
  intro l dC dI cI cZ cS B sa A p e s m args below meth c H locs arr hC hE hW hS hL
  exact va_slen hC.1 hC.2.1 hE.2.2.2.2.2.2.1 hE.2.2.2.2.2.2.2.1 hE.2.2.2.2.2.2.2.2 hS hd (k l dC dI cI cZ cS B sa A p e s m args below meth c H locs arr hC hE hW hS hL)
theorem X_iald3 {i : Int32} {a : Option α} (hd : decode μ.2.1 pc = .ok (.iaload, 1)) (h : xgd (xin i ξ.1) a = some z) (k : a = some z → X ξ μ (pc + 1) ls (.int (ξ.2 i.toNatClampNeg) :: st) sh M kc ks Q) : X ξ μ pc ls (.int i :: .float 3 :: st) sh M kc ks Q := by
  intro l dC dI cI cZ cS B sa A p e s m args below meth c H locs arr hC hE hW hS hL
  obtain ⟨hi, h⟩ := xgd_some h
  exact va_sld hC.1 hC.2.1 hE.2.2.2.2.2.2.1 hE.2.2.2.2.2.2.2.1 hE.2.2.2.2.2.2.2.2 hS (xin_vp hi) hd (k h l dC dI cI cZ cS B sa A p e s m args below meth c H locs arr hC hE hW hS hL)
end XM
end
section
section XCL
theorem xE_next {ξ : xX} {sa : UInt32 → Nat} {A : Nat → Prop} {s U : State} {H : Heap} {locs : List Loc} (hE : xE ξ sa A s s.heap) (hS : va_S A s.heap H locs) (hU : U.heap = H) (hW : s.WarmedH U.vm) : xE ξ sa A U U.heap := by
  obtain ⟨h1, h2, h3, h4, h5, h6, h7, h8, h9⟩ := hE
  subst hU
  have hk : ∀ a : Nat, a < s.heap.size → ¬ A a → U.heap[a]? = s.heap[a]? := fun a h1 h2 => hS.2.1 a h1 h2
  refine ⟨fun w hw hn => ?_, fun q hq => h2 q (Nat.le_trans hS.1 hq), (h3.kept hk).moved hW.alike, (h4.kept hk).moved hW.alike, (h5.kept hk).moved hW.alike, (h6.kept hk).moved hW.alike, (h7.kept (hk _ h8 h9)).moved hW.alike, Nat.lt_of_lt_of_le h8 hS.1, h9⟩
  have h0 := h1 w hw hn
  cases w with
  | methodLinkNest _ _ _ _ => exact va_Nw.warmM hW h0
  | fieldLinkNest _ _ _ _ _ _ => exact va_Nw.warmF hW h0
  | arrayOver t => cases t with
    | object C => exact va_AO.moved (C := C) hW.alike h0
    | _ => cases hn
  | _ => cases hn
theorem xE_call {ξ : xX} {sa : UInt32 → Nat} {A : Nat → Prop} {U : State} {g : JFrame} {mk : MethodId} {a : Array Value} (hE : xE ξ sa A U U.heap) : xE ξ sa A (U.calling g mk a) (U.calling g mk a).heap := by
  obtain ⟨h1, h2, h3, h4, h5, h6, h7, h8, h9⟩ := hE
  refine ⟨fun w hw hn => ?_, h2, h3.moved (Vm.Alike.refl U.vm), h4.moved (Vm.Alike.refl U.vm), h5.moved (Vm.Alike.refl U.vm), h6.moved (Vm.Alike.refl U.vm), h7.moved (Vm.Alike.refl U.vm), h8, h9⟩
  have h0 := h1 w hw hn
  cases w with
  | methodLinkNest _ _ _ _ => exact va_Nw.same (u := U) (U := U.calling g mk a) rfl rfl h0
  | fieldLinkNest _ _ _ _ _ _ => exact va_Nw.same (u := U) (U := U.calling g mk a) rfl rfl h0
  | arrayOver t => cases t with
    | object C => exact va_AO.moved (C := C) (U := U.calling g mk a) (Vm.Alike.refl U.vm) h0
    | _ => cases hn
  | _ => cases hn
theorem xW_moved {dC : Nat → ClassId} {dI : Nat → Nat → Nat} {cI cZ cS : ClassId} {B : Nat} {A : Nat → Prop} {sh : List xS} {M : xM} {u U : State} {H : Heap} (hvm : u.vm.Alike U.vm) (h : xW dC dI cI cZ cS B A sh M u H) : xW dC dI cI cZ cS B A sh M U H := ⟨va_K.moved hvm h.1, h.2⟩
def xPc (ξ : xX) (dC : Nat → ClassId) (dI : Nat → Nat → Nat) (cI cZ cS : ClassId) (B : Nat) (sa : UInt32 → Nat) (A : Nat → Prop) (as : List Value) (sh : List xS) (M : xM) : Array Value → State → Prop := va_Pc (as.map (x_g B sa)) (fun U => xE ξ sa A U U.heap ∧ xW dC dI cI cZ cS B A sh M U U.heap)
theorem xPc_blind {ξ : xX} {dC : Nat → ClassId} {dI : Nat → Nat → Nat} {cI cZ cS : ClassId} {B : Nat} {sa : UInt32 → Nat} {A : Nat → Prop} {as : List Value} {sh : List xS} {M : xM} : FrameBlind (xPc ξ dC dI cI cZ cS B sa A as sh M) := by
  intro a U g mk h
  exact ⟨h.1, xE_call h.2.1, xW_moved (u := U) (U := U.calling g mk a) (Vm.Alike.refl U.vm) h.2.2⟩
theorem X_met {ξ : xX} {μ' : xD} {as : List Value} {sh : List xS} {M : xM} {Q' : Option Value → List xS → xM → Prop} (hX : X ξ μ' 0 as [] sh M 0 0 Q') (hpl : plainName μ'.1.cls = true) (hcat : ∀ v ∈ as, v.category = 1) (hlen : as.length ≤ μ'.2.2.1)
    (l : Launch) (dC : Nat → ClassId) (dI : Nat → Nat → Nat) (cI cZ cS : ClassId) (B : Nat) (sa : UInt32 → Nat) (A : Nat → Prop) : Met l μ'.1 (Cond.code μ'.1 μ'.2.1 μ'.2.2.1 μ'.2.2.2.1 :: xTW) (xrm μ') (xPc ξ dC dI cI cZ cS B sa A as sh M) (xQ dC dI cI cZ cS B sa A Q') μ'.2.2.2.2.2.2.1 μ'.2.2.2.2.2.2.2 A := by
  refine Met.ofW (cc := μ'.2.1) (maxL := μ'.2.2.1) (ret := μ'.2.2.2.1) hpl rfl ?_
  intro p e s m args below meth c s₁ Bd hml hv
  obtain ⟨rfl, hE, hW⟩ := hv
  have hts := atoms_spec (ws := Cond.code μ'.1 μ'.2.1 μ'.2.2.1 μ'.2.2.2.1 :: xTW) Bd.pre
  have hcat' : ∀ v ∈ as.map (x_g B sa), v.category = 1 := fun v hv => by
    obtain ⟨u, hu, rfl⟩ := List.mem_map.mp hv
    rw [x_g_cat]
    exact hcat u hu
  have hsl : ∀ vs : List Value, (∀ v ∈ vs, v.category = 1) → (lg_sl vs).length = vs.length := by
    intro vs
    induction vs with
    | nil => intro _; rfl
    | cons v vs ih =>
      intro h
      have h1 : ¬ v.category = 2 := by rw [h v List.mem_cons_self]; decide
      have h2 := ih (fun u hu => h u (List.mem_cons_of_mem _ hu))
      simp only [lg_sl, List.flatMap_cons, h1, if_false] at h2 ⊢
      simp [h2]
  have hl := lv_entry (as.map (x_g B sa)) (n := μ'.2.2.1) (by rw [hsl _ hcat']; simpa using hlen)
  rw [lg_entry_eq]
  refine hX l dC dI cI cZ cS B sa A p e s m _ below meth c s.heap [] _ ⟨Bd.exec, Bd.bytes, Bd.returns, hml, findClass_of_methodNamed Bd.named, Bd.notSynchronized, (name_of_methodNamed Bd.named Bd.method).1, fun w hw => hts w (List.mem_cons_of_mem _ hw)⟩ hE hW va_S.rf ?_
  rw [x_ix_args _ _ hcat'] at hl
  exact hl
theorem x_call {p : Program} {l : Launch} {e : Env} {R : Room} {s : State} {m : MethodId} {args : Array Value} {below : List Frame} {meth : Method} {c : Code} {H : Heap} {locs : List Loc} {cells slots : Nat} {Z : State → Prop} {pc : Nat} {ls : Array Slot} {rest st0 : List Value} {a : Array Value} {mc ms : Nat}
    {dC : Nat → ClassId} {dI : Nat → Nat → Nat} {cI cZ cS : ClassId} {B : Nat} {sa : UInt32 → Nat} {A : Nat → Prop} {Q' : Option Value → List xS → xM → Prop} (hr : va_Run p l e R s m args below meth c H locs cells slots mc ms (F0 m pc ls st0) rest (xQ dC dI cI cZ cS B sa A Q' a) A) (hS : va_S A s.heap H locs)
    (kk : ∀ (r : Option Value) (sh : List xS) (M : xM) (H1 : Heap) (locs1 : List Loc), Q' r sh M → xW dC dI cI cZ cS B A sh M s H1 → va_S A s.heap H1 locs1 → W p l e R s m args below meth c H1 locs1 (cells + mc) (slots + ms) Z (F0 m (pc + 3) ls ((r.map (x_g B sa)).toList ++ rest))) : W p l e R s m args below meth c H locs cells slots Z (F0 m pc ls st0) := by
  intro T hT X
  obtain ⟨v, st₀, t, T', L, h0, X', hL, e1, e2, ⟨⟨r, sh, M, hv, hp, hb⟩, hz, hk⟩, st⟩ := hr T hT X
  have hv : v = r.map (x_g B sa) := by cases hv; rfl
  subst hv
  rw [h0] at hz hk
  have hvm : t.vm.Alike s.vm := by rw [← e2]; exact X'.warmed.alike.symm
  obtain ⟨t2, a1, b1⟩ := kk r sh M T'.heap (locs ++ L) hp (xW_moved hvm (by rw [e1]; exact hb))
    ⟨Nat.le_trans hS.1 (by rw [e1]; exact hz), fun q h1 h2 => by rw [e1, hk q (Nat.lt_of_lt_of_le h1 hS.1) h2]; exact hS.2.1 q h1 h2, fun q hq => by
      rcases List.mem_append.mp hq with h | h
      · exact hS.2.2 q h
      · exact hL q h⟩ T' rfl X'
  exact ⟨t2, st t2 a1, b1⟩
/-- what the tables say of a method that is called -/
def xMk (μ' : xD) (n : Nat) : Prop := plainName μ'.1.cls = true ∧ Cond.code μ'.1 μ'.2.1 μ'.2.2.1 μ'.2.2.2.1 ∈ xTW ∧ Cond.initialized μ'.1.cls ∈ xTW ∧ (μ'.1.cls ≠ "java/lang/invoke/MethodHandle" ∧ μ'.1.cls ≠ "java/lang/invoke/VarHandle" ∧ (parseMethodDescriptor μ'.1.desc).map (fun d => d.parameters.length) = some n)
def xMkV (μ' : xD) (n : Nat) : Prop := xMk μ' n ∧ Cond.instanceMethod μ'.1 ∈ xTW ∧ Cond.selects μ'.1.cls μ'.1 μ'.1 ∈ xTW
def xMkS (μ' : xD) (n : Nat) : Prop := xMk μ' n ∧ Cond.static μ'.1 ∈ xTW
def xMkI (μ' : xD) (n : Nat) : Prop := xMk μ' n ∧ Cond.instanceMethod μ'.1 ∈ xTW ∧ μ'.1.name = "<init>" ∧ μ'.2.2.2.1 = none
def xLk (own : String) (idx : Nat) (y : MethodName) : Prop := Cond.methodLink own idx y ∈ xTW ∨ ∃ host, Cond.methodLinkNest own idx y host ∈ lw_tbl
def xRm (μ μ' : xD) : Prop := μ'.2.2.2.2.1 + 1 ≤ μ.2.2.2.2.1 ∧ 8 + (μ'.2.2.1 + 11) + μ'.2.2.2.2.2.1 ≤ μ.2.2.2.2.2.1
theorem xTW_code {μ' : xD} (h : Cond.code μ'.1 μ'.2.1 μ'.2.2.1 μ'.2.2.2.1 ∈ xTW) : GoodIn xTW (Cond.code μ'.1 μ'.2.1 μ'.2.2.1 μ'.2.2.2.1 :: xTW) := by
  intro w hw
  rcases List.mem_cons.mp hw with rfl | hw
  · exact xTW_g _ h
  · exact xTW_g _ hw
variable {ξ : xX} {μ μ' : xD} {pc : Nat} {ls st as rest : List Value} {sh : List xS} {M : xM} {kc ks : Nat} {Q Q' : Option Value → List xS → xM → Prop} {α β : Type} {z : α}
theorem X_callV {k0 idx n ci : Nat} {fs : List (Option (Option Nat))} {q : vw_C} (as : List Value) (rest : List Value) (hLk : xLk μ.1.cls idx μ'.1) (hMk : xMkV μ' n) (hRm : xRm μ μ') (hcs : kc + μ'.2.2.2.2.2.2.1 ≤ μ.2.2.2.2.2.2.1 ∧ ks + μ'.2.2.2.2.2.2.2 ≤ μ.2.2.2.2.2.2.2) (hsh : sh[k0]? = some (.inr (ci, fs))) (hcl : vwCl[ci]? = some q) (hq : q.1 = μ'.1.cls) (hn : as.length = n) (hst : as.reverse ++ .ref k0 :: rest = st) (hrest : (rest.map fun v => v.category).sum ≤ 8) (hcat : ∀ v ∈ Value.ref k0 :: as, v.category = 1) (hlen : as.length + 1 ≤ μ'.2.2.1) (hd : decode μ.2.1 pc = .ok (.invokevirtual idx, 3)) (hX : X ξ μ' 0 (.ref k0 :: as) [] sh M 0 0 Q')
    (k : ∀ r sh' M', Q' r sh' M' → X ξ μ (pc + 3) ls (r.toList ++ rest) sh' M' (kc + μ'.2.2.2.2.2.2.1) (ks + μ'.2.2.2.2.2.2.2) Q) : X ξ μ pc ls st sh M kc ks Q := by
  intro l dC dI cI cZ cS B sa A p e s m args below meth c H locs arr hC hE hW hS hL
  obtain ⟨⟨hpl, hcode, hini, hd1, hd2, hd3⟩, hinst, hsel⟩ := hMk
  have ht := hC.2.2.2.2.2.2.2
  have hM := X_met hX hpl hcat (by simpa using hlen) l dC dI cI cZ cS B sa A
  have hG := xTW_code hcode
  have he := x_ws_at (cI := cI) (cZ := cZ) (cS := cS) (B := B) (M := M) hsh
  have hcat2 : ((rest.map (x_g B sa)).map fun v => v.category).sum ≤ 8 := by rw [x_g_cats]; exact hrest
  have hp : PreV s H μ'.1.cls (B + k0) (xPc ξ dC dI cI cZ cS B sa A (.ref k0 :: as) sh M) (as.map (x_g B sa)) := ⟨xPc_blind, by rw [← hq]; exact va_recv hW.1 hW.2.1 hcl he, fun U hU hWm => ⟨rfl, xE_next hE hS hU hWm, xW_moved hWm.alike (by rw [hU]; exact hW)⟩⟩
  have hst2 : st.map (x_g B sa) = (as.map (x_g B sa)).reverse ++ Value.ref (B + k0) :: rest.map (x_g B sa) := by rw [← hst]; simp [x_g]
  have key : va_Run p l e (xrm μ) s m args below meth c H locs kc ks μ'.2.2.2.2.2.2.1 μ'.2.2.2.2.2.2.2 (F0 m pc arr (st.map (x_g B sa))) (rest.map (x_g B sa)) (xQ dC dI cI cZ cS B sa A Q' (Value.ref (B + k0) :: as.map (x_g B sa)).toArray) A := by
    rcases hLk with hLk | ⟨host, hLk⟩
    · exact va_runV (nL := arr.size) (C := μ'.1.cls) ⟨hC.1, hC.2.1, hC.2.2.2.1.trans (x_hasL_sz hL).symm, hC.2.2.2.2.1, ht⟩ hM ⟨callB_of n ht hG rfl rfl rfl (ht _ hini) (ht _ hLk) ⟨hd1, hd2, hd3⟩ hRm, ht _ hinst, ht _ hsel⟩ hp rfl (by simpa using hn) rfl hst2 (lv_room hcat2) hd hcs
    · exact va_runVN (nL := arr.size) (C := μ'.1.cls) (host := host) ⟨hC.1, hC.2.1, hC.2.2.2.1.trans (x_hasL_sz hL).symm, hC.2.2.2.2.1, ht⟩ hM ⟨va_cnB n ht hG rfl rfl rfl (hE.1 _ hLk rfl) (ht _ hini) ⟨hd1, hd2, hd3⟩ hRm, ht _ hinst, ht _ hsel⟩ hp rfl (by simpa using hn) rfl hst2 (lv_room hcat2) hd hcs
  refine x_call key hS (fun r sh' M' H1 locs1 hq' hW' hS' => ?_)
  have := k r sh' M' hq' l dC dI cI cZ cS B sa A p e s m args below meth c H1 locs1 arr hC hE hW' hS' hL
  rw [List.map_append] at this
  cases r <;> exact this
theorem X_callS {idx n : Nat} (as : List Value) (rest : List Value) (hLk : xLk μ.1.cls idx μ'.1) (hMk : xMkS μ' n) (hRm : xRm μ μ') (hcs : kc + μ'.2.2.2.2.2.2.1 ≤ μ.2.2.2.2.2.2.1 ∧ ks + μ'.2.2.2.2.2.2.2 ≤ μ.2.2.2.2.2.2.2) (hn : as.length = n) (hst : as.reverse ++ rest = st) (hrest : (rest.map fun v => v.category).sum ≤ 8) (hcat : ∀ v ∈ as, v.category = 1) (hlen : as.length ≤ μ'.2.2.1) (hd : decode μ.2.1 pc = .ok (.invokestatic idx, 3)) (hX : X ξ μ' 0 as [] sh M 0 0 Q')
    (k : ∀ r sh' M', Q' r sh' M' → X ξ μ (pc + 3) ls (r.toList ++ rest) sh' M' (kc + μ'.2.2.2.2.2.2.1) (ks + μ'.2.2.2.2.2.2.2) Q) : X ξ μ pc ls st sh M kc ks Q := by
  intro l dC dI cI cZ cS B sa A p e s m args below meth c H locs arr hC hE hW hS hL
  obtain ⟨⟨hpl, hcode, hini, hd1, hd2, hd3⟩, hstat⟩ := hMk
  have ht := hC.2.2.2.2.2.2.2
  have hM := X_met hX hpl hcat hlen l dC dI cI cZ cS B sa A
  have hG := xTW_code hcode
  have hcat2 : ((rest.map (x_g B sa)).map fun v => v.category).sum ≤ 8 := by rw [x_g_cats]; exact hrest
  have hp : PreS s H (xPc ξ dC dI cI cZ cS B sa A as sh M) (as.map (x_g B sa)) := ⟨xPc_blind, fun U hU hWm => ⟨rfl, xE_next hE hS hU hWm, xW_moved hWm.alike (by rw [hU]; exact hW)⟩⟩
  have hst2 : st.map (x_g B sa) = (as.map (x_g B sa)).reverse ++ rest.map (x_g B sa) := by rw [← hst]; simp
  have key : va_Run p l e (xrm μ) s m args below meth c H locs kc ks μ'.2.2.2.2.2.2.1 μ'.2.2.2.2.2.2.2 (F0 m pc arr (st.map (x_g B sa))) (rest.map (x_g B sa)) (xQ dC dI cI cZ cS B sa A Q' (as.map (x_g B sa)).toArray) A := by
    rcases hLk with hLk | ⟨host, hLk⟩
    · exact va_runS (nL := arr.size) ⟨hC.1, hC.2.1, hC.2.2.2.1.trans (x_hasL_sz hL).symm, hC.2.2.2.2.1, ht⟩ hM ⟨callB_of n ht hG rfl rfl rfl (ht _ hini) (ht _ hLk) ⟨hd1, hd2, hd3⟩ hRm, ht _ hstat⟩ hp rfl (by simpa using hn) rfl hst2 (lv_room hcat2) hd hcs
    · exact va_runSN (nL := arr.size) (host := host) ⟨hC.1, hC.2.1, hC.2.2.2.1.trans (x_hasL_sz hL).symm, hC.2.2.2.2.1, ht⟩ hM ⟨va_cnB n ht hG rfl rfl rfl (hE.1 _ hLk rfl) (ht _ hini) ⟨hd1, hd2, hd3⟩ hRm, ht _ hstat, trivial⟩ hp rfl (by simpa using hn) rfl hst2 (lv_room hcat2) hd hcs
  refine x_call key hS (fun r sh' M' H1 locs1 hq' hW' hS' => ?_)
  have := k r sh' M' hq' l dC dI cI cZ cS B sa A p e s m args below meth c H1 locs1 arr hC hE hW' hS' hL
  rw [List.map_append] at this
  cases r <;> exact this
theorem X_callI {k0 idx n : Nat} (as : List Value) (rest : List Value) (hLk : xLk μ.1.cls idx μ'.1) (hMk : xMkI μ' n) (hRm : xRm μ μ') (hcs : kc + μ'.2.2.2.2.2.2.1 ≤ μ.2.2.2.2.2.2.1 ∧ ks + μ'.2.2.2.2.2.2.2 ≤ μ.2.2.2.2.2.2.2) (hn : as.length = n) (hst : as.reverse ++ .ref k0 :: rest = st) (hrest : (rest.map fun v => v.category).sum ≤ 8) (hcat : ∀ v ∈ Value.ref k0 :: as, v.category = 1) (hlen : as.length + 1 ≤ μ'.2.2.1) (hd : decode μ.2.1 pc = .ok (.invokespecial idx, 3)) (hX : X ξ μ' 0 (.ref k0 :: as) [] sh M 0 0 Q')
    (k : ∀ r sh' M', Q' r sh' M' → X ξ μ (pc + 3) ls (r.toList ++ rest) sh' M' (kc + μ'.2.2.2.2.2.2.1) (ks + μ'.2.2.2.2.2.2.2) Q) : X ξ μ pc ls st sh M kc ks Q := by
  intro l dC dI cI cZ cS B sa A p e s m args below meth c H locs arr hC hE hW hS hL
  obtain ⟨⟨hpl, hcode, hini, hd1, hd2, hd3⟩, hinst, hnm, hret⟩ := hMk
  have ht := hC.2.2.2.2.2.2.2
  have hM := X_met hX hpl hcat (by simpa using hlen) l dC dI cI cZ cS B sa A
  have hG := xTW_code hcode
  have hcat2 : ((rest.map (x_g B sa)).map fun v => v.category).sum ≤ 8 := by rw [x_g_cats]; exact hrest
  have hp : PreS s H (xPc ξ dC dI cI cZ cS B sa A (.ref k0 :: as) sh M) (Value.ref (B + k0) :: as.map (x_g B sa)) := ⟨xPc_blind, fun U hU hWm => ⟨rfl, xE_next hE hS hU hWm, xW_moved hWm.alike (by rw [hU]; exact hW)⟩⟩
  have hst2 : st.map (x_g B sa) = (as.map (x_g B sa)).reverse ++ Value.ref (B + k0) :: rest.map (x_g B sa) := by rw [← hst]; simp [x_g]
  rw [hret] at hcode hM hG
  have key : va_Run p l e (xrm μ) s m args below meth c H locs kc ks μ'.2.2.2.2.2.2.1 μ'.2.2.2.2.2.2.2 (F0 m pc arr (st.map (x_g B sa))) (rest.map (x_g B sa)) (xQ dC dI cI cZ cS B sa A Q' (Value.ref (B + k0) :: as.map (x_g B sa)).toArray) A := by
    rcases hLk with hLk | ⟨host, hLk⟩
    · exact va_runI (nL := arr.size) ⟨hC.1, hC.2.1, hC.2.2.2.1.trans (x_hasL_sz hL).symm, hC.2.2.2.2.1, ht⟩ hM ⟨callB_of n ht hG rfl rfl rfl (ht _ hini) (ht _ hLk) ⟨hd1, hd2, hd3⟩ hRm, hnm, ht _ hinst⟩ hp rfl (by simpa using hn) rfl hst2 (lv_room hcat2) hd hcs
    · exact va_runIN (nL := arr.size) (host := host) ⟨hC.1, hC.2.1, hC.2.2.2.1.trans (x_hasL_sz hL).symm, hC.2.2.2.2.1, ht⟩ hM ⟨va_cnB n ht hG rfl rfl rfl (hE.1 _ hLk rfl) (ht _ hini) ⟨hd1, hd2, hd3⟩ hRm, hnm, ht _ hinst⟩ hp rfl (by simpa using hn) rfl hst2 (lv_room hcat2) hd hcs
  refine x_call key hS (fun r sh' M' H1 locs1 hq' hW' hS' => ?_)
  have := k r sh' M' hq' l dC dI cI cZ cS B sa A p e s m args below meth c H1 locs1 arr hC hE hW' hS' hL
  rw [List.map_append] at this
  cases r <;> exact this
end XCL
end
section
section XJ
variable {ξ : xX} {μ μ' : xD} {pc : Nat} {ls st as rest : List Value} {sh sh' : List xS} {M : xM} {kc ks : Nat} {Q Q' : Option Value → List xS → xM → Prop} {α β : Type} {z : α}
def xmx (x y : Int32) : Int32 := if x < y then y else x
def xmn (x y : Int32) : Int32 := if y < x then y else x
def xJm (own : String) (idx : Nat) (y : MethodName) (cc : ByteArray) : Prop := Cond.methodLink own idx y ∈ xTW ∧ Cond.static y ∈ xTW ∧ Cond.initialized "java/lang/Math" ∈ xTW ∧ Cond.code y cc 2 (some .int) ∈ xTW
theorem X_max {idx : Nat} {x y : Int32} (hJ : xJm μ.1.cls idx Lib.Math.max.name Lib.Math.max.code) (hf : 1 ≤ μ.2.2.2.2.1) (hl : (st.map fun v => v.category).sum + 13 ≤ μ.2.2.2.2.2.1) (hk1 : kc ≤ μ.2.2.2.2.2.2.1) (hk2 : ks ≤ μ.2.2.2.2.2.2.2) (hd : decode μ.2.1 pc = .ok (.invokestatic idx, 3)) (k : X ξ μ (pc + 3) ls (.int (xmx x y) :: st) sh M kc ks Q) : X ξ μ pc ls (.int y :: .int x :: st) sh M kc ks Q := by
  intro l dC dI cI cZ cS B sa A p e s m args below meth c H locs arr hC hE hW hS hL
  have ht := hC.2.2.2.2.2.2.2
  exact va_mmax hC.1 hC.2.1 (hC.2.2.2.1.trans (x_hasL_sz hL).symm) hC.2.2.2.2.1 (ht _ hJ.1) (ht _ hJ.2.1) (ht _ hJ.2.2.1) (ht _ hJ.2.2.2) hf (by rw [x_g_cats]; exact hl) hk1 hk2 hd (k l dC dI cI cZ cS B sa A p e s m args below meth c H locs arr hC hE hW hS hL)
theorem X_min {idx : Nat} {x y : Int32} (hJ : xJm μ.1.cls idx Lib.Math.min.name Lib.Math.min.code) (hf : 1 ≤ μ.2.2.2.2.1) (hl : (st.map fun v => v.category).sum + 13 ≤ μ.2.2.2.2.2.1) (hk1 : kc ≤ μ.2.2.2.2.2.2.1) (hk2 : ks ≤ μ.2.2.2.2.2.2.2) (hd : decode μ.2.1 pc = .ok (.invokestatic idx, 3)) (k : X ξ μ (pc + 3) ls (.int (xmn x y) :: st) sh M kc ks Q) : X ξ μ pc ls (.int y :: .int x :: st) sh M kc ks Q := by
  intro l dC dI cI cZ cS B sa A p e s m args below meth c H locs arr hC hE hW hS hL
  have ht := hC.2.2.2.2.2.2.2
  exact va_mmin hC.1 hC.2.1 (hC.2.2.2.1.trans (x_hasL_sz hL).symm) hC.2.2.2.2.1 (ht _ hJ.1) (ht _ hJ.2.1) (ht _ hJ.2.2.1) (ht _ hJ.2.2.2) hf (by rw [x_g_cats]; exact hl) hk1 hk2 hd (k l dC dI cI cZ cS B sa A p e s m args below meth c H locs arr hC hE hW hS hL)
theorem X_obj {idx : Nat} {k0 : Nat} (hJ : Cond.methodLink μ.1.cls idx Lib.objectInit ∈ xTW ∧ Cond.instanceMethod Lib.objectInit ∈ xTW ∧ Cond.code Lib.objectInit ⟨#[0xb1]⟩ 1 none ∈ xTW) (hf : 1 ≤ μ.2.2.2.2.1) (hl : (st.map fun v => v.category).sum + 12 ≤ μ.2.2.2.2.2.1) (hd : decode μ.2.1 pc = .ok (.invokespecial idx, 3)) (k : X ξ μ (pc + 3) ls st sh M kc ks Q) : X ξ μ pc ls (.ref k0 :: st) sh M kc ks Q := by
  intro l dC dI cI cZ cS B sa A p e s m args below meth c H locs arr hC hE hW hS hL
  have ht := hC.2.2.2.2.2.2.2
  refine W.objInit hC.1 hC.2.1 hC.2.2.2.2.1 (ht _ hJ.1) (ht _ hJ.2.1) (ht _ hJ.2.2) rfl (by rw [hC.2.2.2.1]; exact x_hasL_sz hL) rfl hd hf (by show 2 * 0 + ((st.map (x_g B sa)).map fun v => v.category).sum + 12 ≤ _; rw [x_g_cats]; show _ ≤ μ.2.2.2.2.2.1; omega) ?_
  exact k l dC dI cI cZ cS B sa A p e s m args below meth c H locs arr hC hE hW hS hL
/-- numbers copied from one array to another: M behind it -/
def xcp (M : xM) (k0 k1 : Nat) (sp dp n : Nat) : xM := fun a b => if a = k1 then va_cpy (M k0) (M k1) sp dp n b else M a b
def xcpG (sp dp n : Int32) (n0 n1 : Nat) : Bool := !decide (sp < 0) && !decide (dp < 0) && !decide (n < 0) && decide (sp.toNatClampNeg + n.toNatClampNeg ≤ n0) && decide (dp.toNatClampNeg + n.toNatClampNeg ≤ n1)
theorem x_copyi {p : Program} {l : Launch} {e : Env} {R : Room} {s : State} {m : MethodId} {args : Array Value} {below : List Frame} {meth : Method} {c : Code} {H : Heap} {locs : List Loc} {cells slots : Nat} {Q : State → Prop} {pc : Nat} {ls : Array Slot} {rest : List Value} {D : va_G} {cl : List vw_C} {A : Nat → Prop} {a : Nat} {tys : List (ClassId × FieldType)} {ws : va_W} {H0 : Heap}
    {cc : ByteArray} (hexec : p.tables.exec = Jvm.exec) (hb : c.code = cc) (hml : c.maxLocals = ls.size) {own : String} {index : Nat} (hown : s.vm.findClass own = some m.cls) (hlink : (Cond.methodLink own index arraycopyName).before args s = true) (hnat : (Cond.native arraycopyName).before args s = true) (hstat : (Cond.static arraycopyName).before args s = true) (hini : (Cond.initialized "java/lang/System").before args s = true)
    (hK : va_K D cl tys s) (hP : va_P D cl ws H) (hD : va_D A ws) (hS : va_S A H0 H locs) (q0 q1 t0 t1 : Nat) {a0 : Nat} {c0 c1 : ClassId} {n0 n1 : Nat} {f g : Nat → Int32} {ty : FieldType} (ha0 : ws[q0]? = some (a0, .inl (c0, n0, .inl f))) (ha1 : ws[q1]? = some (a, .inl (c1, n1, .inl g))) (ht0 : tys[t0]? = some (c0, ty)) (ht1 : tys[t1]? = some (c1, ty)) (hprim : refKind ty = false)
    {sp dp n : Int32} (h1 : ¬ sp < 0) (h2 : ¬ dp < 0) (h3 : ¬ n < 0) (h4 : sp.toNatClampNeg + n.toNatClampNeg ≤ n0) (h5 : dp.toNatClampNeg + n.toNatClampNeg ≤ n1) (hfit : ∀ i, i < n.toNatClampNeg → fits ty (.int (f (sp.toNatClampNeg + i))) = true)
    (hframes : 1 ≤ R.frames) (hlocals : (rest.map fun v => v.category).sum + (nativeFrameWords "java/lang/System" "arraycopy" 5 + 11) ≤ R.locals) (hdg : decode cc pc = .ok (.invokestatic index, 3))
    (kk : ∀ (H1 : Heap) (locs1 : List Loc), H1.size = H.size → va_P D cl (ws.set q1 (a, .inl (c1, n1, .inl (va_cpy f g sp.toNatClampNeg dp.toNatClampNeg n.toNatClampNeg)))) H1 → va_D A (ws.set q1 (a, .inl (c1, n1, .inl (va_cpy f g sp.toNatClampNeg dp.toNatClampNeg n.toNatClampNeg)))) → va_S A H0 H1 locs1 → W p l e R s m args below meth c H1 locs1 cells slots Q (F0 m (pc + 3) ls rest)) : W p l e R s m args below meth c H locs cells slots Q (F0 m pc ls (.int n :: .int dp :: .ref a :: .int sp :: .ref a0 :: rest)) := by
  have nn : ∀ z : Int32, ¬ z < 0 → z.toInt = (z.toNatClampNeg : Int) := by
    intro z hz
    have hz0 : (0 : Int) ≤ z.toInt := by
      have := Int32.not_lt.mp hz
      simpa using Int32.le_iff_toInt_le.mp this
    show z.toInt = ((z.toInt.toNat : Nat) : Int)
    omega
  intro T hT X
  have hc0 : H[a0]? = some (vp_cell c0 (n0, .inl f)) := hP q0 _ ha0
  have hc1 : H[a]? = some (vp_cell c1 (n1, .inl g)) := hP q1 _ ha1
  obtain ⟨-, k0, hk0, cm0, hkk0⟩ := (hK.2 t0 _ ht0).1 n0 (fun j => .int (f j))
  obtain ⟨-, k1, hk1, cm1, hkk1⟩ := (hK.2 t1 _ ht1).1 n1 (fun j => .int (g j))
  obtain ⟨vm', X', step⟩ := X.arraycopy hexec hown hlink hnat hstat hini (src := a0) (dst := a) (cs := vp_cell c0 (n0, .inl f)) (cd := vp_cell c1 (n1, .inl g)) (srcPos := sp) (destPos := dp) (n := n) (by rw [hT]; exact hc0) (by rw [hT]; exact hc1)
    (fun _ h => by cases h) (fun _ h => by cases h) (fun h => by cases h) (fun h => by cases h) hk0 hk1 hkk0 hkk1 (by simp [hprim]) h1 h2 h3
    (by rw [nn sp h1, nn n h3]; show ¬ _ > ((arrV c0 n0 (fun j => .int (f j))).slots.size : Int); rw [arrV_size]; omega)
    (by rw [nn dp h2, nn n h3]; show ¬ _ > ((arrV c1 n1 (fun j => .int (g j))).slots.size : Int); rw [arrV_size]; omega)
    (fun vm₁ _ i hi => by
      have e : (vp_cell c0 (n0, .inl f)).slots.getD (sp.toNatClampNeg + i) .null = .int (f (sp.toNatClampNeg + i)) := by
        show (arrV c0 n0 (fun j => .int (f j))).slots.getD _ _ = _
        rw [Array.getD_eq_getD_getElem?, arrV_read _ _ (by omega)]
        rfl
      refine ⟨?_, ?_⟩
      · rw [e]
        exact hfit i hi
      · rw [e]
        exact trivial)
    (g := F0 m pc ls (.int n :: .int dp :: .ref a :: .int sp :: .ref a0 :: rest)) rfl (by rw [hml]) (rest := rest) rfl (by rw [hb]; exact hdg) hframes (by show 2 * 0 + _ + _ ≤ _; omega)
  have e1 : copied (vp_cell c0 (n0, .inl f)) (vp_cell c1 (n1, .inl g)) sp dp n = vp_cell c1 (n1, .inl (va_cpy f g sp.toNatClampNeg dp.toNatClampNeg n.toNatClampNeg)) := va_copied (fun z => .int z) c0 c1 f g h4
  rw [e1] at X' step
  have hl : a < H.size := (Array.getElem?_eq_some_iff.mp hc1).1
  have hheap : ((T.setVm vm').setCell a (vp_cell c1 (n1, .inl (va_cpy f g sp.toNatClampNeg dp.toNatClampNeg n.toNatClampNeg)))).heap = H.setIfInBounds a (vp_cell c1 (n1, .inl (va_cpy f g sp.toNatClampNeg dp.toNatClampNeg n.toNatClampNeg))) := by rw [← hT]; rfl
  have oq : ∀ q : Nat, q ≠ a → (H.setIfInBounds a (vp_cell c1 (n1, .inl (va_cpy f g sp.toNatClampNeg dp.toNatClampNeg n.toNatClampNeg))))[q]? = H[q]? := fun q hq => by simp [Array.getElem?_setIfInBounds, Ne.symm hq]
  obtain ⟨t, a1, b1⟩ := kk _ _ (by simp) (hP.set hD ha1 (show (H.setIfInBounds a _)[a]? = some _ by simp [Array.getElem?_setIfInBounds, hl]) oq) (hD.set ha1) ⟨by simp; exact hS.1, fun q g1 g2 => by
      rw [oq q (fun e => g2 (by rw [e]; exact hD.2 q1 _ ha1))]
      exact hS.2.1 q g1 g2, fun q hq => by
      rcases List.mem_append.mp hq with h | h
      · exact hS.2.2 q h
      · obtain ⟨z, -, hz⟩ := List.mem_map.mp h
        rw [← hz]
        exact hD.2 q1 _ ha1⟩ _ hheap X'
  exact ⟨t, step t a1, b1⟩
def xJc (own : String) (idx : Nat) : Prop := Cond.methodLink own idx arraycopyName ∈ xTW ∧ Cond.native arraycopyName ∈ xTW ∧ Cond.static arraycopyName ∈ xTW ∧ Cond.initialized "java/lang/System" ∈ xTW
theorem X_copy {idx k0 k1 n0 n1 : Nat} {rs0 rs1 : List (Option Nat)} {sp dp n : Int32} {g : xM → Option α} (hJ : xJc μ.1.cls idx) (hf : 1 ≤ μ.2.2.2.2.1) (hl : (st.map fun v => v.category).sum + 18 ≤ μ.2.2.2.2.2.1) (h0 : sh[k0]? = some (.inl (0, n0, rs0))) (h1 : sh[k1]? = some (.inl (0, n1, rs1))) (hd : decode μ.2.1 pc = .ok (.invokestatic idx, 3)) (h : xgd (xcpG sp dp n n0 n1) (xl (xcp M k0 k1 sp.toNatClampNeg dp.toNatClampNeg n.toNatClampNeg) g) = some z) (k : ∀ M1 : xM, g M1 = some z → X ξ μ (pc + 3) ls st sh M1 kc ks Q) : X ξ μ pc ls (.int n :: .int dp :: .ref k1 :: .int sp :: .ref k0 :: st) sh M kc ks Q := by
  intro l dC dI cI cZ cS B sa A p e s m args below meth c H locs arr hC hE hW hS hL
  obtain ⟨hg, h⟩ := xgd_some h
  simp only [xcpG, Bool.and_eq_true, Bool.not_eq_true', decide_eq_false_iff_not, decide_eq_true_eq] at hg
  obtain ⟨⟨⟨⟨g1, g2⟩, g3⟩, g4⟩, g5⟩ := hg
  have ht := hC.2.2.2.2.2.2.2
  have e0 := x_ws_at (cI := cI) (cZ := cZ) (cS := cS) (B := B) (M := M) h0
  have e1 := x_ws_at (cI := cI) (cZ := cZ) (cS := cS) (B := B) (M := M) h1
  have e2 : (x_ws cI cZ cS B sh M).set k1 (B + k1, .inl (cI, n1, .inl (va_cpy (M k0) (M k1) sp.toNatClampNeg dp.toNatClampNeg n.toNatClampNeg))) = x_ws cI cZ cS B sh (xcp M k0 k1 sp.toNatClampNeg dp.toNatClampNeg n.toNatClampNeg) := x_ws_set h1 (fun i hi => by funext b; simp [xcp, hi]) (by show (Sum.inl (cI, n1, _) : va_E) = _; congr 4; funext b; simp [xcp])
  refine x_copyi hC.1 hC.2.1 (hC.2.2.2.1.trans (x_hasL_sz hL).symm) hC.2.2.2.2.1 (ht _ hJ.1) (ht _ hJ.2.1) (ht _ hJ.2.2.1) (ht _ hJ.2.2.2) hW.1 hW.2.1 hW.2.2.1 hS k0 k1 0 0 e0 e1 rfl rfl rfl g1 g2 g3 g4 g5 (fun _ _ => rfl) hf (by rw [x_g_cats]; exact hl) hd (fun H1 locs1 hz hP hD hS1 => ?_)
  rw [e2] at hP hD
  exact k _ h l dC dI cI cZ cS B sa A p e s m args below meth c H1 locs1 arr hC hE ⟨hW.1, hP, hD, hz.trans hW.2.2.2⟩ hS1 hL
end XJ
end
section
section XG
variable {ξ : xX} {μ μ' : xD} {pc : Nat} {ls st as rest : List Value} {sh sh' : List xS} {M : xM} {kc ks : Nat} {Q Q' : Option Value → List xS → xM → Prop} {α β : Type} {z : α}
def xb (o : Option α) (g : α → Option β) : Option β := o.bind g
def xb2 (o : Option (Int32 × xM)) (g : Int32 → xM → Option β) : Option β := o.bind (fun v => g v.1 v.2)
theorem xb_some {o : Option α} {g : α → Option β} {z : β} (h : xb o g = some z) : ∃ v, o = some v ∧ g v = some z := Option.bind_eq_some_iff.mp h
theorem xb2_some {o : Option (Int32 × xM)} {g : Int32 → xM → Option β} {z : β} (h : xb2 o g = some z) : ∃ v, o = some v ∧ g v.1 v.2 = some z := Option.bind_eq_some_iff.mp h
def xcat1 (l : List Value) : Bool := l.all (fun v => v.category == 1)
theorem xcat1_of {l : List Value} (h : xcat1 l = true) : ∀ v ∈ l, v.category = 1 := fun v hv => by
  have := List.all_eq_true.mp h v hv
  simpa using this
/-- the numbers of a call: rooms, locals, what lies below -/
def xkV (μ μ' : xD) (d : Nat) (kc ks n : Nat) (as rest : List Value) : Bool :=
  Nat.ble (μ'.2.2.2.2.1 + 1) μ.2.2.2.2.1 && Nat.ble (8 + (μ'.2.2.1 + 11) + μ'.2.2.2.2.2.1) μ.2.2.2.2.2.1 && Nat.ble (kc + μ'.2.2.2.2.2.2.1) μ.2.2.2.2.2.2.1 && Nat.ble (ks + μ'.2.2.2.2.2.2.2) μ.2.2.2.2.2.2.2 && Nat.beq as.length n && Nat.ble (rest.map fun v => v.category).sum 8 && xcat1 as && Nat.ble (as.length + d) μ'.2.2.1
theorem xkV_of {d n : Nat} (h : xkV μ μ' d kc ks n as rest = true) : xRm μ μ' ∧ (kc + μ'.2.2.2.2.2.2.1 ≤ μ.2.2.2.2.2.2.1 ∧ ks + μ'.2.2.2.2.2.2.2 ≤ μ.2.2.2.2.2.2.2) ∧ as.length = n ∧ (rest.map fun v => v.category).sum ≤ 8 ∧ (∀ v ∈ as, v.category = 1) ∧ as.length + d ≤ μ'.2.2.1 := by
  simp only [xkV, Bool.and_eq_true] at h
  obtain ⟨⟨⟨⟨⟨⟨⟨h1, h2⟩, h3⟩, h4⟩, h5⟩, h6⟩, h7⟩, h8⟩ := h
  exact ⟨⟨Nat.le_of_ble_eq_true h1, Nat.le_of_ble_eq_true h2⟩, ⟨Nat.le_of_ble_eq_true h3, Nat.le_of_ble_eq_true h4⟩, Nat.eq_of_beq_eq_true h5, Nat.le_of_ble_eq_true h6, xcat1_of h7, Nat.le_of_ble_eq_true h8⟩
def xRv (sh : List xS) (k0 : Nat) (C : String) : Prop := ∃ (ci : Nat) (fs : List (Option (Option Nat))) (q : vw_C), sh[k0]? = some (.inr (ci, fs)) ∧ vwCl[ci]? = some q ∧ q.1 = C
theorem X_vG {k0 idx n : Nat} (as rest : List Value) (hLk : xLk μ.1.cls idx μ'.1) (hMk : xMkV μ' n) (hR : xRv sh k0 μ'.1.cls) (hk : xkV μ μ' 1 kc ks n as rest = true) (hst : as.reverse ++ .ref k0 :: rest = st) (hd : decode μ.2.1 pc = .ok (.invokevirtual idx, 3)) (hX : X ξ μ' 0 (.ref k0 :: as) [] sh M 0 0 Q')
    (k : ∀ r sh' M', Q' r sh' M' → X ξ μ (pc + 3) ls (r.toList ++ rest) sh' M' (kc + μ'.2.2.2.2.2.2.1) (ks + μ'.2.2.2.2.2.2.2) Q) : X ξ μ pc ls st sh M kc ks Q := by
  obtain ⟨h1, h2, h3, h4, h5, h6⟩ := xkV_of hk
  obtain ⟨ci, fs, q, r1, r2, r3⟩ := hR
  exact X_callV as rest hLk hMk h1 h2 r1 r2 r3 h3 hst h4 (fun v hv => by
    rcases List.mem_cons.mp hv with rfl | hv
    · rfl
    · exact h5 v hv) h6 hd hX k
theorem X_sG {idx n : Nat} (as rest : List Value) (hLk : xLk μ.1.cls idx μ'.1) (hMk : xMkS μ' n) (hk : xkV μ μ' 0 kc ks n as rest = true) (hst : as.reverse ++ rest = st) (hd : decode μ.2.1 pc = .ok (.invokestatic idx, 3)) (hX : X ξ μ' 0 as [] sh M 0 0 Q')
    (k : ∀ r sh' M', Q' r sh' M' → X ξ μ (pc + 3) ls (r.toList ++ rest) sh' M' (kc + μ'.2.2.2.2.2.2.1) (ks + μ'.2.2.2.2.2.2.2) Q) : X ξ μ pc ls st sh M kc ks Q := by
  obtain ⟨h1, h2, h3, h4, h5, h6⟩ := xkV_of hk
  exact X_callS as rest hLk hMk h1 h2 h3 hst h4 h5 h6 hd hX k
theorem X_iG {k0 idx n : Nat} (as rest : List Value) (hLk : xLk μ.1.cls idx μ'.1) (hMk : xMkI μ' n) (hk : xkV μ μ' 1 kc ks n as rest = true) (hst : as.reverse ++ .ref k0 :: rest = st) (hd : decode μ.2.1 pc = .ok (.invokespecial idx, 3)) (hX : X ξ μ' 0 (.ref k0 :: as) [] sh M 0 0 Q')
    (k : ∀ r sh' M', Q' r sh' M' → X ξ μ (pc + 3) ls (r.toList ++ rest) sh' M' (kc + μ'.2.2.2.2.2.2.1) (ks + μ'.2.2.2.2.2.2.2) Q) : X ξ μ pc ls st sh M kc ks Q := by
  obtain ⟨h1, h2, h3, h4, h5, h6⟩ := xkV_of hk
  exact X_callI as rest hLk hMk h1 h2 h3 hst h4 (fun v hv => by
    rcases List.mem_cons.mp hv with rfl | hv
    · rfl
    · exact h5 v hv) h6 hd hX k

theorem X_vP {k0 idx n : Nat} (as rest : List Value) (hLk : xLk μ.1.cls idx μ'.1) (hMk : xMkV μ' n) (hR : xRv sh k0 μ'.1.cls) (hk : xkV μ μ' 1 kc ks n as rest = true) (h0 : μ'.2.2.2.2.2.2 = (0, 0)) (hst : as.reverse ++ .ref k0 :: rest = st) (hd : decode μ.2.1 pc = .ok (.invokevirtual idx, 3)) {o : Option Int32} {g : Int32 → Option α} (h : xb o g = some z) (hX : ∀ v, o = some v → X ξ μ' 0 (.ref k0 :: as) [] sh M 0 0 (xr (some (.int v)) sh M)) (k : ∀ v, g v = some z → X ξ μ (pc + 3) ls (.int v :: rest) sh M kc ks Q) : X ξ μ pc ls st sh M kc ks Q := by
  have e1 : μ'.2.2.2.2.2.2.1 = 0 := by rw [h0]
  have e2 : μ'.2.2.2.2.2.2.2 = 0 := by rw [h0]
  obtain ⟨v, hv, h⟩ := xb_some h
  refine X_vG as rest hLk hMk hR hk hst hd (hX v hv) (fun r sh' M' hq => ?_)
  obtain ⟨rfl, rfl, rfl⟩ := hq
  rw [e1, e2]
  exact k v h
theorem X_vI {k0 idx n : Nat} (as rest : List Value) (hLk : xLk μ.1.cls idx μ'.1) (hMk : xMkV μ' n) (hR : xRv sh k0 μ'.1.cls) (hk : xkV μ μ' 1 kc ks n as rest = true) (h0 : μ'.2.2.2.2.2.2 = (0, 0)) (hst : as.reverse ++ .ref k0 :: rest = st) (hd : decode μ.2.1 pc = .ok (.invokevirtual idx, 3)) {o : Option (Int32 × xM)} {g : Int32 → xM → Option α} (h : xb2 o g = some z) (hX : ∀ v, o = some v → X ξ μ' 0 (.ref k0 :: as) [] sh M 0 0 (xr (some (.int v.1)) sh v.2)) (k : ∀ v M1, g v M1 = some z → X ξ μ (pc + 3) ls (.int v :: rest) sh M1 kc ks Q) : X ξ μ pc ls st sh M kc ks Q := by
  have e1 : μ'.2.2.2.2.2.2.1 = 0 := by rw [h0]
  have e2 : μ'.2.2.2.2.2.2.2 = 0 := by rw [h0]
  obtain ⟨v, hv, h⟩ := xb2_some h
  refine X_vG as rest hLk hMk hR hk hst hd (hX v hv) (fun r sh' M' hq => ?_)
  obtain ⟨rfl, rfl, rfl⟩ := hq
  rw [e1, e2]
  exact k v.1 v.2 h
theorem X_vV {k0 idx n : Nat} (as rest : List Value) (hLk : xLk μ.1.cls idx μ'.1) (hMk : xMkV μ' n) (hR : xRv sh k0 μ'.1.cls) (hk : xkV μ μ' 1 kc ks n as rest = true) (h0 : μ'.2.2.2.2.2.2 = (0, 0)) (hst : as.reverse ++ .ref k0 :: rest = st) (hd : decode μ.2.1 pc = .ok (.invokevirtual idx, 3)) {o : Option xM} {g : xM → Option α} (h : xb o g = some z) (hX : ∀ v, o = some v → X ξ μ' 0 (.ref k0 :: as) [] sh M 0 0 (xr none sh v)) (k : ∀ M1, g M1 = some z → X ξ μ (pc + 3) ls rest sh M1 kc ks Q) : X ξ μ pc ls st sh M kc ks Q := by
  have e1 : μ'.2.2.2.2.2.2.1 = 0 := by rw [h0]
  have e2 : μ'.2.2.2.2.2.2.2 = 0 := by rw [h0]
  obtain ⟨v, hv, h⟩ := xb_some h
  refine X_vG as rest hLk hMk hR hk hst hd (hX v hv) (fun r sh' M' hq => ?_)
  obtain ⟨rfl, rfl, rfl⟩ := hq
  rw [e1, e2]
  exact k _ h

theorem X_sP {idx n : Nat} (as rest : List Value) (hLk : xLk μ.1.cls idx μ'.1) (hMk : xMkS μ' n) (hk : xkV μ μ' 0 kc ks n as rest = true) (h0 : μ'.2.2.2.2.2.2 = (0, 0)) (hst : as.reverse ++ rest = st) (hd : decode μ.2.1 pc = .ok (.invokestatic idx, 3)) {o : Option Int32} {g : Int32 → Option α} (h : xb o g = some z) (hX : ∀ v, o = some v → X ξ μ' 0 as [] sh M 0 0 (xr (some (.int v)) sh M)) (k : ∀ v, g v = some z → X ξ μ (pc + 3) ls (.int v :: rest) sh M kc ks Q) : X ξ μ pc ls st sh M kc ks Q := by
  have e1 : μ'.2.2.2.2.2.2.1 = 0 := by rw [h0]
  have e2 : μ'.2.2.2.2.2.2.2 = 0 := by rw [h0]
  obtain ⟨v, hv, h⟩ := xb_some h
  refine X_sG as rest hLk hMk hk hst hd (hX v hv) (fun r sh' M' hq => ?_)
  obtain ⟨rfl, rfl, rfl⟩ := hq
  rw [e1, e2]
  exact k v h
theorem X_sI {idx n : Nat} (as rest : List Value) (hLk : xLk μ.1.cls idx μ'.1) (hMk : xMkS μ' n) (hk : xkV μ μ' 0 kc ks n as rest = true) (h0 : μ'.2.2.2.2.2.2 = (0, 0)) (hst : as.reverse ++ rest = st) (hd : decode μ.2.1 pc = .ok (.invokestatic idx, 3)) {o : Option (Int32 × xM)} {g : Int32 → xM → Option α} (h : xb2 o g = some z) (hX : ∀ v, o = some v → X ξ μ' 0 as [] sh M 0 0 (xr (some (.int v.1)) sh v.2)) (k : ∀ v M1, g v M1 = some z → X ξ μ (pc + 3) ls (.int v :: rest) sh M1 kc ks Q) : X ξ μ pc ls st sh M kc ks Q := by
  have e1 : μ'.2.2.2.2.2.2.1 = 0 := by rw [h0]
  have e2 : μ'.2.2.2.2.2.2.2 = 0 := by rw [h0]
  obtain ⟨v, hv, h⟩ := xb2_some h
  refine X_sG as rest hLk hMk hk hst hd (hX v hv) (fun r sh' M' hq => ?_)
  obtain ⟨rfl, rfl, rfl⟩ := hq
  rw [e1, e2]
  exact k v.1 v.2 h
theorem X_sV {idx n : Nat} (as rest : List Value) (hLk : xLk μ.1.cls idx μ'.1) (hMk : xMkS μ' n) (hk : xkV μ μ' 0 kc ks n as rest = true) (h0 : μ'.2.2.2.2.2.2 = (0, 0)) (hst : as.reverse ++ rest = st) (hd : decode μ.2.1 pc = .ok (.invokestatic idx, 3)) {o : Option xM} {g : xM → Option α} (h : xb o g = some z) (hX : ∀ v, o = some v → X ξ μ' 0 as [] sh M 0 0 (xr none sh v)) (k : ∀ M1, g M1 = some z → X ξ μ (pc + 3) ls rest sh M1 kc ks Q) : X ξ μ pc ls st sh M kc ks Q := by
  have e1 : μ'.2.2.2.2.2.2.1 = 0 := by rw [h0]
  have e2 : μ'.2.2.2.2.2.2.2 = 0 := by rw [h0]
  obtain ⟨v, hv, h⟩ := xb_some h
  refine X_sG as rest hLk hMk hk hst hd (hX v hv) (fun r sh' M' hq => ?_)
  obtain ⟨rfl, rfl, rfl⟩ := hq
  rw [e1, e2]
  exact k _ h

/-! switches -/
theorem xne {x c : Int32} {n : Int} (hc : c.toInt = n) (h : ¬ x = c) : x.toInt ≠ n := fun e => h (Int32.toInt_inj.mp (e.trans hc.symm))
theorem xsw_out {x : Int32} {lo : Int} : ∀ n : Nat, (∀ k, k < n → x.toInt ≠ lo + k) → x.toInt < lo ∨ lo + n - 1 < x.toInt := by
  intro n h
  by_cases h1 : x.toInt < lo
  · exact Or.inl h1
  · refine Or.inr ?_
    by_cases h2 : lo + n - 1 < x.toInt
    · exact h2
    · exact absurd (by omega) (h (x.toInt - lo).toNat (by omega))
theorem X_tsIn {x : Int32} {dflt lo hi : Int} {offs : Array Int} {len : Nat} (c : Int32) (tgt : Nat) {off : Int} (hx : x = c) (hd : decode μ.2.1 pc = .ok (.tableswitch dflt lo hi offs, len)) (h1 : ¬ c.toInt < lo) (h2 : ¬ hi < c.toInt) (ho : offs[(c.toInt - lo).toNat]? = some off) (ht : (pc : Int) + off = (tgt : Int)) (k : X ξ μ tgt ls st sh M kc ks Q) : X ξ μ pc ls (.int x :: st) sh M kc ks Q := by
  subst hx
  intro l dC dI cI cZ cS B sa A p e s m args below meth c H locs arr hC hE hW hS hL
  exact lv_tableIn (tgt := tgt) hC.1 hC.2.1 hd h1 h2 ho ht (k l dC dI cI cZ cS B sa A p e s m args below meth c H locs arr hC hE hW hS hL)
theorem X_tsOut {x : Int32} {dflt lo hi : Int} {offs : Array Int} {len : Nat} (tgt : Nat) (hd : decode μ.2.1 pc = .ok (.tableswitch dflt lo hi offs, len)) (hx : x.toInt < lo ∨ hi < x.toInt) (ht : (pc : Int) + dflt = (tgt : Int)) (k : X ξ μ tgt ls st sh M kc ks Q) : X ξ μ pc ls (.int x :: st) sh M kc ks Q := by
  intro l dC dI cI cZ cS B sa A p e s m args below meth c H locs arr hC hE hW hS hL
  exact lv_tableOut (tgt := tgt) hC.1 hC.2.1 hd hx ht (k l dC dI cI cZ cS B sa A p e s m args below meth c H locs arr hC hE hW hS hL)
theorem X_lsw {x : Int32} {dflt : Int} {ps : Array (Int × Int)} {len : Nat} {off : Int} (tgt : Nat) (hd : decode μ.2.1 pc = .ok (.lookupswitch dflt ps, len)) (hp : (ps.toList.zip (ps.toList.drop 1)).all (fun (a, next) => a.1 < next.1) = true) (ho : Op.lookupswitch.offset ps.toList dflt x.toInt = off) (ht : (pc : Int) + off = (tgt : Int)) (k : X ξ μ tgt ls st sh M kc ks Q) : X ξ μ pc ls (.int x :: st) sh M kc ks Q := by
  intro l dC dI cI cZ cS B sa A p e s m args below meth c H locs arr hC hE hW hS hL
  exact lv_lookup (tgt := tgt) hC.1 hC.2.1 hd hp ho ht (k l dC dI cI cZ cS B sa A p e s m args below meth c H locs arr hC hE hW hS hL)
/-! new cells -/
def xn (M : xM) (k : Nat) : xM := fun a b => if a = k then 0 else M a b
theorem x_ws_new {cI cZ cS : ClassId} {B : Nat} {s : xS} : x_ws cI cZ cS B (sh ++ [s]) (xn M sh.length) = x_ws cI cZ cS B sh M ++ [(B + sh.length, x_cell cI cZ cS B (fun _ => 0) s)] := by
  rw [x_ws_push]
  congr 1
  · apply List.ext_getElem?
    intro i
    simp only [x_ws, List.getElem?_mapIdx]
    cases hi : sh[i]? with
    | none => rfl
    | some q =>
      have hl : i < sh.length := (List.getElem?_eq_some_iff.mp hi).1
      have e : xn M sh.length i = M i := by funext b; simp [xn, Nat.ne_of_lt hl]
      simp [e]
  · have e : xn M sh.length sh.length = fun _ => 0 := by funext b; simp [xn]
    rw [e]
theorem X_new {idx ci N : Nat} {C : String} {T : u_T} (fs : List (Option (Option Nat))) (ty : Nat → FieldType) (hcl : vwCl[ci]? = some (C, T, N)) (hin : ∀ w ∈ u_ws C T N, w ∈ xTW) (hty : ∀ k, k < N → parseFieldDescriptor (T k).2.2.1 = some (ty k)) (hw : Cond.classLink μ.1.cls idx C ∈ xTW ∧ Cond.instantiable C N ∈ xTW ∧ Cond.initialized C ∈ xTW) (hfs : ∀ j, j < N → (fs[j]? = some none ∧ defaultValue (ty j) = .int 0) ∨ (fs[j]? = some (some none) ∧ defaultValue (ty j) = .null)) (hk1 : kc + 1 ≤ μ.2.2.2.2.2.2.1) (hk2 : ks + N ≤ μ.2.2.2.2.2.2.2) (hd : decode μ.2.1 pc = .ok (.new idx, 3)) (k : X ξ μ (pc + 3) ls (.ref sh.length :: st) (sh ++ [.inr (ci, fs)]) (xn M sh.length) (kc + 1) (ks + N) Q) : X ξ μ pc ls st sh M kc ks Q := by
  intro l dC dI cI cZ cS B sa A p e s m args below meth c H locs arr hC hE hW hS hL
  have ht := hC.2.2.2.2.2.2.2
  obtain ⟨hK, hP, hD, hz⟩ := hW
  have hKn := hK.1 ci _ hcl
  refine W.newcK hC.1 hC.2.1 hC.2.2.2.2.1 (ht _ hw.1) (ht _ hw.2.1) (ht _ hw.2.2) rfl hd hk1 hk2 hKn.2.1 rfl fun H1 kC hkC e1 z1 o1 => ?_
  have hk : ∀ (k : Nat) (x : Nat × va_E), (x_ws cI cZ cS B sh M)[k]? = some x → H1[x.1]? = H[x.1]? := fun k x hx => o1 x.1 ((hP k x hx).lt)
  have hA : A H.size := hE.2.1 _ hS.1
  have hP1 : va_P (dC, dI) vwCl (x_ws cI cZ cS B (sh ++ [.inr (ci, fs)]) (xn M sh.length)) H1 := by
    rw [x_ws_new]
    refine (hP.kept hk).app (fun k x hx => ?_)
    have hz1 : k < 1 := (List.getElem?_eq_some_iff.mp hx).1
    rw [show k = 0 by omega] at hx
    cases hx
    refine ⟨_, hcl, t_OB.to (V := fun k => defaultValue (ty k)) (by rw [← hz]; exact u_born ty ht hin hKn hkC e1 hty) (fun j hj => ?_)⟩
    rcases hfs j hj with ⟨g1, g2⟩ | ⟨g1, g2⟩ <;> simp [g2, vp_V, List.getD_eq_getElem?_getD, List.getElem?_mapIdx, g1, x_val, va_rf]
  have hD1 : va_D A (x_ws cI cZ cS B (sh ++ [.inr (ci, fs)]) (xn M sh.length)) := by
    rw [x_ws_new]
    exact hD.push hP hz.symm (by rw [← hz]; exact hA)
  have k2 := k l dC dI cI cZ cS B sa A p e s m args below meth c H1 locs arr hC hE ⟨hK, hP1, hD1, by rw [z1, hz, List.length_append]; rfl⟩ ⟨Nat.le_trans hS.1 (by omega), fun x h1 h2 => (o1 x (Nat.lt_of_lt_of_le h1 hS.1)).trans (hS.2.1 x h1 h2), hS.2.2⟩ hL
  rw [List.map_cons] at k2
  have e3 : x_g B sa (.ref sh.length) = .ref H.size := by rw [hz]; rfl
  rw [e3] at k2
  exact k2
theorem X_newa {atype : ArrayType} {n : Int32} (tg N : Nat) (hat : (tg = 0 ∧ newarray.typeOf atype = .int) ∨ (tg = 1 ∧ newarray.typeOf atype = .boolean)) (hw : Cond.arrayClass (newarray.typeOf atype) ∈ xTW) (hn : ¬ n < 0) (hN : n.toNatClampNeg = N) (hb : N * 4 ≤ 536870912) (hk1 : kc + 1 ≤ μ.2.2.2.2.2.2.1) (hk2 : ks + N ≤ μ.2.2.2.2.2.2.2) (hd : decode μ.2.1 pc = .ok (.newarray atype, 2)) (k : X ξ μ (pc + 2) ls (.ref sh.length :: st) (sh ++ [.inl (tg, N, [])]) (xn M sh.length) (kc + 1) (ks + N) Q) : X ξ μ pc ls (.int n :: st) sh M kc ks Q := by
  intro l dC dI cI cZ cS B sa A p e s m args below meth c H locs arr hC hE hW hS hL
  have ht := hC.2.2.2.2.2.2.2
  obtain ⟨hK, hP, hD, hz⟩ := hW
  refine va_newaK hC.1 hC.2.1 (ht _ hw) rfl hd rfl hn hN (by rcases hat with ⟨-, e⟩ | ⟨-, e⟩ <;> rw [e] <;> simp only [componentBytes] <;> omega) hk1 hk2 rfl fun H1 cA e1 z1 o1 hAr hNm => ?_
  have hk : ∀ (k : Nat) (x : Nat × va_E), (x_ws cI cZ cS B sh M)[k]? = some x → H1[x.1]? = H[x.1]? := fun k x hx => o1 x.1 ((hP k x hx).lt)
  have hA : A H.size := hE.2.1 _ hS.1
  have hP1 : va_P (dC, dI) vwCl (x_ws cI cZ cS B (sh ++ [.inl (tg, N, [])]) (xn M sh.length)) H1 := by
    rw [x_ws_new]
    refine (hP.kept hk).app (fun k x hx => ?_)
    have hz1 : k < 1 := (List.getElem?_eq_some_iff.mp hx).1
    rw [show k = 0 by omega] at hx
    cases hx
    rcases hat with ⟨rfl, e⟩ | ⟨rfl, e⟩
    · have hc : cA = cI := by
        have h9 := (hK.2 0 _ rfl).2
        rw [e] at hNm
        exact Option.some.inj (hNm.symm.trans h9)
      subst hc
      show H1[B + sh.length]? = some (vp_cell cA (N, .inl (fun _ => 0)))
      rw [vp_cell_i, ← hz, e1, e]
      rfl
    · have hc : cA = cZ := by
        have h9 := (hK.2 1 _ rfl).2
        rw [e] at hNm
        exact Option.some.inj (hNm.symm.trans h9)
      subst hc
      show H1[B + sh.length]? = some (vp_cell cA (N, .inl (fun _ => 0)))
      rw [vp_cell_i, ← hz, e1, e]
      rfl
  have hD1 : va_D A (x_ws cI cZ cS B (sh ++ [.inl (tg, N, [])]) (xn M sh.length)) := by
    rw [x_ws_new]
    exact hD.push hP hz.symm (by rw [← hz]; exact hA)
  have k2 := k l dC dI cI cZ cS B sa A p e s m args below meth c H1 locs arr hC hE ⟨hK, hP1, hD1, by rw [z1, hz, List.length_append]; rfl⟩ ⟨Nat.le_trans hS.1 (by omega), fun x h1 h2 => (o1 x (Nat.lt_of_lt_of_le h1 hS.1)).trans (hS.2.1 x h1 h2), hS.2.2⟩ hL
  rw [List.map_cons] at k2
  have e3 : x_g B sa (.ref sh.length) = .ref H.size := by rw [hz]; rfl
  rw [e3] at k2
  exact k2
theorem X_anew {n : Int32} {idx : Nat} (N : Nat) (hw : Cond.classLink μ.1.cls idx "SoundArchive$State" ∈ xTW) (ho : Cond.arrayOver (.object "SoundArchive$State") ∈ lw_tbl) (hn : ¬ n < 0) (hN : n.toNatClampNeg = N) (hb : N * 4 ≤ 536870912) (hk1 : kc + 1 ≤ μ.2.2.2.2.2.2.1) (hk2 : ks + N ≤ μ.2.2.2.2.2.2.2) (hd : decode μ.2.1 pc = .ok (.anewarray idx, 3)) (k : X ξ μ (pc + 3) ls (.ref sh.length :: st) (sh ++ [.inl (2, N, [])]) (xn M sh.length) (kc + 1) (ks + N) Q) : X ξ μ pc ls (.int n :: st) sh M kc ks Q := by
  intro l dC dI cI cZ cS B sa A p e s m args below meth c H locs arr hC hE hW hS hL
  have ht := hC.2.2.2.2.2.2.2
  obtain ⟨hK, hP, hD, hz⟩ := hW
  subst hN
  refine W.anew hC.1 hC.2.1 hC.2.2.2.2.1 (ht _ hw) (va_AO.use (hE.1 _ ho rfl)) rfl hd rfl hn hb hk1 hk2 fun cA kA comp f1 f2 f3 f4 => ?_
  generalize hH1 : H.push ({ cls := cA, slots := Array.replicate n.toNatClampNeg .null, vm := .none } : Cell) = H1
  have z1 : H1.size = H.size + 1 := by rw [← hH1, Array.size_push]
  have e1 : H1[H.size]? = some (arrV cA n.toNatClampNeg (fun _ => .null)) := by rw [← hH1, Array.getElem?_push_size, ← arrV_new]
  have o1 : ∀ q : Nat, q < H.size → H1[q]? = H[q]? := fun q hq => by rw [← hH1, Array.getElem?_push, if_neg (Nat.ne_of_lt hq)]
  have hk : ∀ (k : Nat) (x : Nat × va_E), (x_ws cI cZ cS B sh M)[k]? = some x → H1[x.1]? = H[x.1]? := fun k x hx => o1 x.1 ((hP k x hx).lt)
  have hA : A H.size := hE.2.1 _ hS.1
  have hP1 : va_P (dC, dI) vwCl (x_ws cI cZ cS B (sh ++ [.inl (2, n.toNatClampNeg, [])]) (xn M sh.length)) H1 := by
    rw [x_ws_new]
    refine (hP.kept hk).app (fun k x hx => ?_)
    have hz1 : k < 1 := (List.getElem?_eq_some_iff.mp hx).1
    rw [show k = 0 by omega] at hx
    cases hx
    have hc : cA = cS := by
      obtain ⟨kA', comp', g1, g2, g3, g4⟩ := (hK.2 2 _ rfl).2
      exact Option.some.inj (f1.symm.trans g4)
    subst hc
    show H1[B + sh.length]? = some (vp_cell cA (n.toNatClampNeg, .inr (.inr (.inr (.inr (fun _ => none))))))
    rw [vp_cell_q, ← hz, e1]
    rfl
  have hD1 : va_D A (x_ws cI cZ cS B (sh ++ [.inl (2, n.toNatClampNeg, [])]) (xn M sh.length)) := by
    rw [x_ws_new]
    exact hD.push hP hz.symm (by rw [← hz]; exact hA)
  have k2 := k l dC dI cI cZ cS B sa A p e s m args below meth c H1 locs arr hC hE ⟨hK, hP1, hD1, by rw [z1, hz, List.length_append]; rfl⟩ ⟨Nat.le_trans hS.1 (by omega), fun x h1 h2 => (o1 x (Nat.lt_of_lt_of_le h1 hS.1)).trans (hS.2.1 x h1 h2), hS.2.2⟩ hL
  rw [List.map_cons] at k2
  have e3 : x_g B sa (.ref sh.length) = .ref H.size := by rw [hz]; rfl
  rw [e3] at k2
  exact k2
/-- a State put into the history's row -/
theorem X_aast {k0 n q ci : Nat} {rs : List (Option Nat)} {fs : List (Option (Option Nat))} {r : vw_C} {i : Int32} (rs' : List (Option Nat)) (sh' : List xS) (h0 : sh[k0]? = some (.inl (2, n, rs))) (h1 : sh[q]? = some (.inr (ci, fs))) (hc : vwCl[ci]? = some r) (hr : r.1 = "SoundArchive$State") (hi : xin i n = true) (hrs : ∀ j, (rs'[j]?).getD none = if j = i.toNatClampNeg then some q else (rs[j]?).getD none) (hsh : sh.set k0 (.inl (2, n, rs')) = sh') (hd : decode μ.2.1 pc = .ok (.aastore, 1)) (k : X ξ μ (pc + 1) ls st sh' M kc ks Q) : X ξ μ pc ls (.ref q :: .int i :: .ref k0 :: st) sh M kc ks Q := by
  intro l dC dI cI cZ cS B sa A p e s m args below meth c H locs arr hC hE hW hS hL
  subst hsh
  obtain ⟨hK, hP, hD, hz⟩ := hW
  have e0 := x_ws_at (cI := cI) (cZ := cZ) (cS := cS) (B := B) (M := M) h0
  have e1 := x_ws_at (cI := cI) (cZ := cZ) (cS := cS) (B := B) (M := M) h1
  have hin := xin_vp hi
  have hlt : i.toNatClampNeg < n := Nat.not_le.mp fun q => hin (Or.inr q)
  have h00 : ¬ i < 0 := fun q => hin (Or.inl q)
  obtain ⟨r', hr', cellV, g1, g2, g3, -⟩ := hP q _ e1
  have hcls := (hK.1 ci r hc).2
  have hKA := hK.2 2 _ rfl
  obtain ⟨kA, comp, k1, k2, k3, -⟩ := hKA.2
  have hcomp : comp = dC ci := by
    have h9 := hcls.1
    rw [hr] at h9
    exact Option.some.inj (k3.symm.trans h9)
  subst hcomp
  obtain ⟨kC, hkC, -⟩ := hcls.2
  refine W.aast hC.1 hC.2.1 (hP k0 _ e0) (fun q h => by cases h) (fun h => by cases h) k1 k2 rfl hkC ⟨h00, by show _ < (arrV _ _ _).slots.size; rw [arrV_size]; exact hlt⟩ g1 (fun q h => by rw [g3] at h; cases h) (by rw [g2]; exact hkC) (by rw [g2]; exact va_assign hcls) rfl rfl hd fun H1 e9 z9 oq => ?_
  have e2 : (x_ws cI cZ cS B sh M).set k0 (B + k0, .inl (cS, n, .inr (.inr (.inr (.inr (va_up (fun j => ((rs[j]?).getD none).map (fun q => B + q)) i.toNatClampNeg (some (B + q)))))))) = x_ws cI cZ cS B (sh.set k0 (.inl (2, n, rs'))) M := x_ws_setS h0 (by
    show (Sum.inl (cS, n, _) : va_E) = _
    congr 7
    funext j
    rw [hrs j]
    unfold va_up
    by_cases hj : j = i.toNatClampNeg
    · rw [if_pos hj, if_pos hj]; rfl
    · rw [if_neg hj, if_neg hj])
  have hP1 := hP.set (e := .inl (cS, n, .inr (.inr (.inr (.inr (va_up (fun j => ((rs[j]?).getD none).map (fun q => B + q)) i.toNatClampNeg (some (B + q)))))))) hD e0 (by
    show H1[B + k0]? = some (vp_cell _ _)
    rw [e9]
    show some ((vp_cell cS (n, .inr (.inr (.inr (.inr (fun j => ((rs[j]?).getD none).map (fun q => B + q)))))) ).setSlot _ _) = _
    rw [vp_cell_q, vp_cell_q, arrV_store]
    congr 2
    funext x
    by_cases hx : x = i.toNatClampNeg
    · subst hx
      simp [updV, va_up, va_rf]
    · simp [updV, va_up, hx]) oq
  rw [e2] at hP1
  have hD1 : va_D A (x_ws cI cZ cS B (sh.set k0 (.inl (2, n, rs'))) M) := by rw [← e2]; exact hD.set e0
  exact k l dC dI cI cZ cS B sa A p e s m args below meth c H1 _ arr hC hE ⟨hK, hP1, hD1, by rw [z9, hz, List.length_set]⟩ (hS.put z9 oq (hD.2 k0 _ e0)) hL
end XG
end
