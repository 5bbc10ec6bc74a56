-- ===== PART A: goes FIRST, ahead of the names: the tables' words, and 'selects' of the private methods out of them =====
/-- a private method of a class that the tables say can be made, by its rows of tables_1 -/
def lw_okq (q : MethodName × Nat) : Prop := (q.1.cls ≠ "java/lang/invoke/MethodHandle" ∧ q.1.cls ≠ "java/lang/invoke/VarHandle") ∧ Cond.instantiable q.1.cls q.2 ∈ tables_1 ∧ Cond.privateMethod q.1 ∈ tables_1 ∧ Cond.instanceMethod q.1 ∈ tables_1
theorem lw_p0 : lw_okq (⟨"HeldBlades$Settings", "startAnew", "()V"⟩, 6) := ⟨⟨by decide +kernel, by decide +kernel⟩, List.mem_of_getElem? (i := 24) (by decide +kernel), List.mem_of_getElem? (i := 30) (by decide +kernel), List.mem_of_getElem? (i := 31) (by decide +kernel)⟩
theorem lw_p1 : lw_okq (⟨"HeldBlades$Wheel", "startAnew", "()V"⟩, 16) := ⟨⟨by decide +kernel, by decide +kernel⟩, List.mem_of_getElem? (i := 108) (by decide +kernel), List.mem_of_getElem? (i := 114) (by decide +kernel), List.mem_of_getElem? (i := 115) (by decide +kernel)⟩
theorem lw_p2 : lw_okq (⟨"HeldBlades$Text", "append", "(I)V"⟩, 2) := ⟨⟨by decide +kernel, by decide +kernel⟩, List.mem_of_getElem? (i := 61) (by decide +kernel), List.mem_of_getElem? (i := 334) (by decide +kernel), List.mem_of_getElem? (i := 335) (by decide +kernel)⟩
theorem lw_p3 : lw_okq (⟨"HeldBlades$Reader", "read", "(LHeldBlades$Text;)I"⟩, 5) := ⟨⟨by decide +kernel, by decide +kernel⟩, List.mem_of_getElem? (i := 77) (by decide +kernel), List.mem_of_getElem? (i := 346) (by decide +kernel), List.mem_of_getElem? (i := 347) (by decide +kernel)⟩
theorem lw_p4 : lw_okq (⟨"HeldBlades$Text", "behindBlanks", "(I)I"⟩, 2) := ⟨⟨by decide +kernel, by decide +kernel⟩, List.mem_of_getElem? (i := 61) (by decide +kernel), List.mem_of_getElem? (i := 351) (by decide +kernel), List.mem_of_getElem? (i := 352) (by decide +kernel)⟩
theorem lw_p5 : lw_okq (⟨"HeldBlades$Text", "letterAt", "(I)I"⟩, 2) := ⟨⟨by decide +kernel, by decide +kernel⟩, List.mem_of_getElem? (i := 61) (by decide +kernel), List.mem_of_getElem? (i := 355) (by decide +kernel), List.mem_of_getElem? (i := 356) (by decide +kernel)⟩
theorem lw_p6 : lw_okq (⟨"HeldBlades$Text", "behindToken", "(I)I"⟩, 2) := ⟨⟨by decide +kernel, by decide +kernel⟩, List.mem_of_getElem? (i := 61) (by decide +kernel), List.mem_of_getElem? (i := 359) (by decide +kernel), List.mem_of_getElem? (i := 360) (by decide +kernel)⟩
theorem lw_p7 : lw_okq (⟨"HeldBlades$Text", "isFigureAt", "(I)Z"⟩, 2) := ⟨⟨by decide +kernel, by decide +kernel⟩, List.mem_of_getElem? (i := 61) (by decide +kernel), List.mem_of_getElem? (i := 363) (by decide +kernel), List.mem_of_getElem? (i := 364) (by decide +kernel)⟩
theorem lw_p8 : lw_okq (⟨"HeldBlades$Reader", "takes", "(LHeldBlades$Text;II)Z"⟩, 5) := ⟨⟨by decide +kernel, by decide +kernel⟩, List.mem_of_getElem? (i := 77) (by decide +kernel), List.mem_of_getElem? (i := 368) (by decide +kernel), List.mem_of_getElem? (i := 369) (by decide +kernel)⟩
theorem lw_p9 : lw_okq (⟨"HeldBlades$Reader", "takesLetter", "(I)Z"⟩, 5) := ⟨⟨by decide +kernel, by decide +kernel⟩, List.mem_of_getElem? (i := 77) (by decide +kernel), List.mem_of_getElem? (i := 373) (by decide +kernel), List.mem_of_getElem? (i := 374) (by decide +kernel)⟩
theorem lw_p10 : lw_okq (⟨"HeldBlades$Reader", "isTold", "(I)Z"⟩, 5) := ⟨⟨by decide +kernel, by decide +kernel⟩, List.mem_of_getElem? (i := 77) (by decide +kernel), List.mem_of_getElem? (i := 380) (by decide +kernel), List.mem_of_getElem? (i := 381) (by decide +kernel)⟩
theorem lw_p11 : lw_okq (⟨"HeldBlades$Text", "numberAt", "(II)I"⟩, 2) := ⟨⟨by decide +kernel, by decide +kernel⟩, List.mem_of_getElem? (i := 61) (by decide +kernel), List.mem_of_getElem? (i := 384) (by decide +kernel), List.mem_of_getElem? (i := 385) (by decide +kernel)⟩
theorem lw_p12 : lw_okq (⟨"HeldBlades$Reader", "takesNumber", "(I)Z"⟩, 5) := ⟨⟨by decide +kernel, by decide +kernel⟩, List.mem_of_getElem? (i := 77) (by decide +kernel), List.mem_of_getElem? (i := 388) (by decide +kernel), List.mem_of_getElem? (i := 389) (by decide +kernel)⟩
theorem lw_p13 : lw_okq (⟨"HeldBlades$Settings", "mayBe", "(II)Z"⟩, 6) := ⟨⟨by decide +kernel, by decide +kernel⟩, List.mem_of_getElem? (i := 24) (by decide +kernel), List.mem_of_getElem? (i := 392) (by decide +kernel), List.mem_of_getElem? (i := 393) (by decide +kernel)⟩
theorem lw_p14 : lw_okq (⟨"HeldBlades$Settings", "put", "(II)V"⟩, 6) := ⟨⟨by decide +kernel, by decide +kernel⟩, List.mem_of_getElem? (i := 24) (by decide +kernel), List.mem_of_getElem? (i := 397) (by decide +kernel), List.mem_of_getElem? (i := 398) (by decide +kernel)⟩
theorem lw_p15 : lw_okq (⟨"HeldBlades$Reader", "takesEnd", "(I)Z"⟩, 5) := ⟨⟨by decide +kernel, by decide +kernel⟩, List.mem_of_getElem? (i := 77) (by decide +kernel), List.mem_of_getElem? (i := 401) (by decide +kernel), List.mem_of_getElem? (i := 402) (by decide +kernel)⟩
def lw_privs_1 : List (MethodName × Nat) := [(⟨"HeldBlades$Settings", "startAnew", "()V"⟩, 6), (⟨"HeldBlades$Wheel", "startAnew", "()V"⟩, 16), (⟨"HeldBlades$Text", "append", "(I)V"⟩, 2), (⟨"HeldBlades$Reader", "read", "(LHeldBlades$Text;)I"⟩, 5), (⟨"HeldBlades$Text", "behindBlanks", "(I)I"⟩, 2), (⟨"HeldBlades$Text", "letterAt", "(I)I"⟩, 2), (⟨"HeldBlades$Text", "behindToken", "(I)I"⟩, 2), (⟨"HeldBlades$Text", "isFigureAt", "(I)Z"⟩, 2), (⟨"HeldBlades$Reader", "takes", "(LHeldBlades$Text;II)Z"⟩, 5), (⟨"HeldBlades$Reader", "takesLetter", "(I)Z"⟩, 5), (⟨"HeldBlades$Reader", "isTold", "(I)Z"⟩, 5), (⟨"HeldBlades$Text", "numberAt", "(II)I"⟩, 2), (⟨"HeldBlades$Reader", "takesNumber", "(I)Z"⟩, 5), (⟨"HeldBlades$Settings", "mayBe", "(II)Z"⟩, 6), (⟨"HeldBlades$Settings", "put", "(II)V"⟩, 6), (⟨"HeldBlades$Reader", "takesEnd", "(I)Z"⟩, 5)]
theorem lw_r1 : ∀ q ∈ lw_privs_1, lw_okq q := List.forall_mem_cons.mpr ⟨lw_p0, List.forall_mem_cons.mpr ⟨lw_p1, List.forall_mem_cons.mpr ⟨lw_p2, List.forall_mem_cons.mpr ⟨lw_p3, List.forall_mem_cons.mpr ⟨lw_p4, List.forall_mem_cons.mpr ⟨lw_p5, List.forall_mem_cons.mpr ⟨lw_p6, List.forall_mem_cons.mpr ⟨lw_p7, List.forall_mem_cons.mpr ⟨lw_p8, List.forall_mem_cons.mpr ⟨lw_p9, List.forall_mem_cons.mpr ⟨lw_p10, List.forall_mem_cons.mpr ⟨lw_p11, List.forall_mem_cons.mpr ⟨lw_p12, List.forall_mem_cons.mpr ⟨lw_p13, List.forall_mem_cons.mpr ⟨lw_p14, List.forall_mem_cons.mpr ⟨lw_p15, fun _ h => absurd h List.not_mem_nil⟩⟩⟩⟩⟩⟩⟩⟩⟩⟩⟩⟩⟩⟩⟩⟩
theorem lw_p16 : lw_okq (⟨"HeldBlades$Settings", "become", "(LHeldBlades$Settings;)V"⟩, 6) := ⟨⟨by decide +kernel, by decide +kernel⟩, List.mem_of_getElem? (i := 24) (by decide +kernel), List.mem_of_getElem? (i := 405) (by decide +kernel), List.mem_of_getElem? (i := 406) (by decide +kernel)⟩
theorem lw_p17 : lw_okq (⟨"HeldBlades$Moment", "startAnew", "()V"⟩, 4) := ⟨⟨by decide +kernel, by decide +kernel⟩, List.mem_of_getElem? (i := 102) (by decide +kernel), List.mem_of_getElem? (i := 409) (by decide +kernel), List.mem_of_getElem? (i := 410) (by decide +kernel)⟩
theorem lw_p18 : lw_okq (⟨"HeldBlades$Trace", "startAnew", "()V"⟩, 3) := ⟨⟨by decide +kernel, by decide +kernel⟩, List.mem_of_getElem? (i := 177) (by decide +kernel), List.mem_of_getElem? (i := 414) (by decide +kernel), List.mem_of_getElem? (i := 415) (by decide +kernel)⟩
theorem lw_p19 : lw_okq (⟨"HeldBlades$Past", "lose", "()V"⟩, 3) := ⟨⟨by decide +kernel, by decide +kernel⟩, List.mem_of_getElem? (i := 212) (by decide +kernel), List.mem_of_getElem? (i := 418) (by decide +kernel), List.mem_of_getElem? (i := 419) (by decide +kernel)⟩
theorem lw_p20 : lw_okq (⟨"HeldBlades", "loseImages", "()V"⟩, 10) := ⟨⟨by decide +kernel, by decide +kernel⟩, List.mem_of_getElem? (i := 16) (by decide +kernel), List.mem_of_getElem? (i := 422) (by decide +kernel), List.mem_of_getElem? (i := 423) (by decide +kernel)⟩
theorem lw_p21 : lw_okq (⟨"HeldBlades$Past", "add", "(LHeldBlades$Moment;)V"⟩, 3) := ⟨⟨by decide +kernel, by decide +kernel⟩, List.mem_of_getElem? (i := 212) (by decide +kernel), List.mem_of_getElem? (i := 430) (by decide +kernel), List.mem_of_getElem? (i := 431) (by decide +kernel)⟩
theorem lw_p22 : lw_okq (⟨"HeldBlades$Moment", "become", "(LHeldBlades$Moment;)V"⟩, 4) := ⟨⟨by decide +kernel, by decide +kernel⟩, List.mem_of_getElem? (i := 102) (by decide +kernel), List.mem_of_getElem? (i := 437) (by decide +kernel), List.mem_of_getElem? (i := 438) (by decide +kernel)⟩
theorem lw_p23 : lw_okq (⟨"HeldBlades$Wheel", "become", "(LHeldBlades$Wheel;)V"⟩, 16) := ⟨⟨by decide +kernel, by decide +kernel⟩, List.mem_of_getElem? (i := 108) (by decide +kernel), List.mem_of_getElem? (i := 441) (by decide +kernel), List.mem_of_getElem? (i := 442) (by decide +kernel)⟩
theorem lw_p24 : lw_okq (⟨"HeldBlades$Trace", "become", "(LHeldBlades$Trace;)V"⟩, 3) := ⟨⟨by decide +kernel, by decide +kernel⟩, List.mem_of_getElem? (i := 177) (by decide +kernel), List.mem_of_getElem? (i := 445) (by decide +kernel), List.mem_of_getElem? (i := 446) (by decide +kernel)⟩
theorem lw_p25 : lw_okq (⟨"HeldBlades$Moment", "tick", "(LHeldBlades$Settings;)V"⟩, 4) := ⟨⟨by decide +kernel, by decide +kernel⟩, List.mem_of_getElem? (i := 102) (by decide +kernel), List.mem_of_getElem? (i := 475) (by decide +kernel), List.mem_of_getElem? (i := 476) (by decide +kernel)⟩
theorem lw_p26 : lw_okq (⟨"HeldBlades$Wheel", "step", "(LHeldBlades$Settings;)V"⟩, 16) := ⟨⟨by decide +kernel, by decide +kernel⟩, List.mem_of_getElem? (i := 108) (by decide +kernel), List.mem_of_getElem? (i := 479) (by decide +kernel), List.mem_of_getElem? (i := 480) (by decide +kernel)⟩
theorem lw_p27 : lw_okq (⟨"HeldBlades$Wheel", "nextMode", "(LHeldBlades$Settings;)I"⟩, 16) := ⟨⟨by decide +kernel, by decide +kernel⟩, List.mem_of_getElem? (i := 108) (by decide +kernel), List.mem_of_getElem? (i := 483) (by decide +kernel), List.mem_of_getElem? (i := 484) (by decide +kernel)⟩
theorem lw_p28 : lw_okq (⟨"HeldBlades$Wheel", "isWound", "(I)Z"⟩, 16) := ⟨⟨by decide +kernel, by decide +kernel⟩, List.mem_of_getElem? (i := 108) (by decide +kernel), List.mem_of_getElem? (i := 487) (by decide +kernel), List.mem_of_getElem? (i := 488) (by decide +kernel)⟩
theorem lw_p29 : lw_okq (⟨"HeldBlades$Wheel", "pitchAim", "(LHeldBlades$Settings;)I"⟩, 16) := ⟨⟨by decide +kernel, by decide +kernel⟩, List.mem_of_getElem? (i := 108) (by decide +kernel), List.mem_of_getElem? (i := 491) (by decide +kernel), List.mem_of_getElem? (i := 492) (by decide +kernel)⟩
theorem lw_p30 : lw_okq (⟨"HeldBlades$Wheel", "torqueAim", "(LHeldBlades$Settings;)I"⟩, 16) := ⟨⟨by decide +kernel, by decide +kernel⟩, List.mem_of_getElem? (i := 108) (by decide +kernel), List.mem_of_getElem? (i := 502) (by decide +kernel), List.mem_of_getElem? (i := 503) (by decide +kernel)⟩
theorem lw_p31 : lw_okq (⟨"HeldBlades$Wheel", "error", "()I"⟩, 16) := ⟨⟨by decide +kernel, by decide +kernel⟩, List.mem_of_getElem? (i := 108) (by decide +kernel), List.mem_of_getElem? (i := 506) (by decide +kernel), List.mem_of_getElem? (i := 507) (by decide +kernel)⟩
def lw_privs_2 : List (MethodName × Nat) := [(⟨"HeldBlades$Settings", "become", "(LHeldBlades$Settings;)V"⟩, 6), (⟨"HeldBlades$Moment", "startAnew", "()V"⟩, 4), (⟨"HeldBlades$Trace", "startAnew", "()V"⟩, 3), (⟨"HeldBlades$Past", "lose", "()V"⟩, 3), (⟨"HeldBlades", "loseImages", "()V"⟩, 10), (⟨"HeldBlades$Past", "add", "(LHeldBlades$Moment;)V"⟩, 3), (⟨"HeldBlades$Moment", "become", "(LHeldBlades$Moment;)V"⟩, 4), (⟨"HeldBlades$Wheel", "become", "(LHeldBlades$Wheel;)V"⟩, 16), (⟨"HeldBlades$Trace", "become", "(LHeldBlades$Trace;)V"⟩, 3), (⟨"HeldBlades$Moment", "tick", "(LHeldBlades$Settings;)V"⟩, 4), (⟨"HeldBlades$Wheel", "step", "(LHeldBlades$Settings;)V"⟩, 16), (⟨"HeldBlades$Wheel", "nextMode", "(LHeldBlades$Settings;)I"⟩, 16), (⟨"HeldBlades$Wheel", "isWound", "(I)Z"⟩, 16), (⟨"HeldBlades$Wheel", "pitchAim", "(LHeldBlades$Settings;)I"⟩, 16), (⟨"HeldBlades$Wheel", "torqueAim", "(LHeldBlades$Settings;)I"⟩, 16), (⟨"HeldBlades$Wheel", "error", "()I"⟩, 16)]
theorem lw_r2 : ∀ q ∈ lw_privs_2, lw_okq q := List.forall_mem_cons.mpr ⟨lw_p16, List.forall_mem_cons.mpr ⟨lw_p17, List.forall_mem_cons.mpr ⟨lw_p18, List.forall_mem_cons.mpr ⟨lw_p19, List.forall_mem_cons.mpr ⟨lw_p20, List.forall_mem_cons.mpr ⟨lw_p21, List.forall_mem_cons.mpr ⟨lw_p22, List.forall_mem_cons.mpr ⟨lw_p23, List.forall_mem_cons.mpr ⟨lw_p24, List.forall_mem_cons.mpr ⟨lw_p25, List.forall_mem_cons.mpr ⟨lw_p26, List.forall_mem_cons.mpr ⟨lw_p27, List.forall_mem_cons.mpr ⟨lw_p28, List.forall_mem_cons.mpr ⟨lw_p29, List.forall_mem_cons.mpr ⟨lw_p30, List.forall_mem_cons.mpr ⟨lw_p31, fun _ h => absurd h List.not_mem_nil⟩⟩⟩⟩⟩⟩⟩⟩⟩⟩⟩⟩⟩⟩⟩⟩
theorem lw_p32 : lw_okq (⟨"HeldBlades$Wheel", "ahead", "()I"⟩, 16) := ⟨⟨by decide +kernel, by decide +kernel⟩, List.mem_of_getElem? (i := 108) (by decide +kernel), List.mem_of_getElem? (i := 510) (by decide +kernel), List.mem_of_getElem? (i := 511) (by decide +kernel)⟩
theorem lw_p33 : lw_okq (⟨"HeldBlades$Wheel", "drive", "(I)I"⟩, 16) := ⟨⟨by decide +kernel, by decide +kernel⟩, List.mem_of_getElem? (i := 108) (by decide +kernel), List.mem_of_getElem? (i := 514) (by decide +kernel), List.mem_of_getElem? (i := 515) (by decide +kernel)⟩
theorem lw_p34 : lw_okq (⟨"HeldBlades$Wheel", "drag", "()I"⟩, 16) := ⟨⟨by decide +kernel, by decide +kernel⟩, List.mem_of_getElem? (i := 108) (by decide +kernel), List.mem_of_getElem? (i := 518) (by decide +kernel), List.mem_of_getElem? (i := 519) (by decide +kernel)⟩
theorem lw_p35 : lw_okq (⟨"HeldBlades$Wheel", "turn", "(I)V"⟩, 16) := ⟨⟨by decide +kernel, by decide +kernel⟩, List.mem_of_getElem? (i := 108) (by decide +kernel), List.mem_of_getElem? (i := 525) (by decide +kernel), List.mem_of_getElem? (i := 526) (by decide +kernel)⟩
theorem lw_p36 : lw_okq (⟨"HeldBlades$Wheel", "turnBy", "(I)V"⟩, 16) := ⟨⟨by decide +kernel, by decide +kernel⟩, List.mem_of_getElem? (i := 108) (by decide +kernel), List.mem_of_getElem? (i := 529) (by decide +kernel), List.mem_of_getElem? (i := 530) (by decide +kernel)⟩
theorem lw_p37 : lw_okq (⟨"HeldBlades$Trace", "add", "(I)V"⟩, 3) := ⟨⟨by decide +kernel, by decide +kernel⟩, List.mem_of_getElem? (i := 177) (by decide +kernel), List.mem_of_getElem? (i := 533) (by decide +kernel), List.mem_of_getElem? (i := 534) (by decide +kernel)⟩
theorem lw_p38 : lw_okq (⟨"HeldBlades$Past", "takeLatest", "(LHeldBlades$Moment;)V"⟩, 3) := ⟨⟨by decide +kernel, by decide +kernel⟩, List.mem_of_getElem? (i := 212) (by decide +kernel), List.mem_of_getElem? (i := 542) (by decide +kernel), List.mem_of_getElem? (i := 543) (by decide +kernel)⟩
theorem lw_p39 : lw_okq (⟨"HeldBlades$Wheel", "tell", "(I)I"⟩, 16) := ⟨⟨by decide +kernel, by decide +kernel⟩, List.mem_of_getElem? (i := 108) (by decide +kernel), List.mem_of_getElem? (i := 550) (by decide +kernel), List.mem_of_getElem? (i := 551) (by decide +kernel)⟩
theorem lw_p40 : lw_okq (⟨"HeldBlades$Settings", "tell", "(I)I"⟩, 6) := ⟨⟨by decide +kernel, by decide +kernel⟩, List.mem_of_getElem? (i := 24) (by decide +kernel), List.mem_of_getElem? (i := 559) (by decide +kernel), List.mem_of_getElem? (i := 560) (by decide +kernel)⟩
theorem lw_p41 : lw_okq (⟨"HeldBlades$Trace", "speedAgo", "(I)I"⟩, 3) := ⟨⟨by decide +kernel, by decide +kernel⟩, List.mem_of_getElem? (i := 177) (by decide +kernel), List.mem_of_getElem? (i := 567) (by decide +kernel), List.mem_of_getElem? (i := 568) (by decide +kernel)⟩
theorem lw_p42 : lw_okq (⟨"HeldBlades", "bearsGust", "(II)Z"⟩, 10) := ⟨⟨by decide +kernel, by decide +kernel⟩, List.mem_of_getElem? (i := 16) (by decide +kernel), List.mem_of_getElem? (i := 576) (by decide +kernel), List.mem_of_getElem? (i := 577) (by decide +kernel)⟩
theorem lw_p43 : lw_okq (⟨"HeldBlades", "ridesDip", "(I)Z"⟩, 10) := ⟨⟨by decide +kernel, by decide +kernel⟩, List.mem_of_getElem? (i := 16) (by decide +kernel), List.mem_of_getElem? (i := 586) (by decide +kernel), List.mem_of_getElem? (i := 587) (by decide +kernel)⟩
theorem lw_p44 : lw_okq (⟨"HeldBlades$Rain", "pour", "(LHeldBlades$Trace;)V"⟩, 8) := ⟨⟨by decide +kernel, by decide +kernel⟩, List.mem_of_getElem? (i := 260) (by decide +kernel), List.mem_of_getElem? (i := 594) (by decide +kernel), List.mem_of_getElem? (i := 595) (by decide +kernel)⟩
theorem lw_p45 : lw_okq (⟨"HeldBlades$Rain", "findTurn", "(I)V"⟩, 8) := ⟨⟨by decide +kernel, by decide +kernel⟩, List.mem_of_getElem? (i := 260) (by decide +kernel), List.mem_of_getElem? (i := 599) (by decide +kernel), List.mem_of_getElem? (i := 600) (by decide +kernel)⟩
theorem lw_p46 : lw_okq (⟨"HeldBlades$Rain", "addToRow", "(I)V"⟩, 8) := ⟨⟨by decide +kernel, by decide +kernel⟩, List.mem_of_getElem? (i := 260) (by decide +kernel), List.mem_of_getElem? (i := 603) (by decide +kernel), List.mem_of_getElem? (i := 604) (by decide +kernel)⟩
theorem lw_p47 : lw_okq (⟨"HeldBlades$Rain", "isCycleInside", "()Z"⟩, 8) := ⟨⟨by decide +kernel, by decide +kernel⟩, List.mem_of_getElem? (i := 260) (by decide +kernel), List.mem_of_getElem? (i := 607) (by decide +kernel), List.mem_of_getElem? (i := 608) (by decide +kernel)⟩
def lw_privs_3 : List (MethodName × Nat) := [(⟨"HeldBlades$Wheel", "ahead", "()I"⟩, 16), (⟨"HeldBlades$Wheel", "drive", "(I)I"⟩, 16), (⟨"HeldBlades$Wheel", "drag", "()I"⟩, 16), (⟨"HeldBlades$Wheel", "turn", "(I)V"⟩, 16), (⟨"HeldBlades$Wheel", "turnBy", "(I)V"⟩, 16), (⟨"HeldBlades$Trace", "add", "(I)V"⟩, 3), (⟨"HeldBlades$Past", "takeLatest", "(LHeldBlades$Moment;)V"⟩, 3), (⟨"HeldBlades$Wheel", "tell", "(I)I"⟩, 16), (⟨"HeldBlades$Settings", "tell", "(I)I"⟩, 6), (⟨"HeldBlades$Trace", "speedAgo", "(I)I"⟩, 3), (⟨"HeldBlades", "bearsGust", "(II)Z"⟩, 10), (⟨"HeldBlades", "ridesDip", "(I)Z"⟩, 10), (⟨"HeldBlades$Rain", "pour", "(LHeldBlades$Trace;)V"⟩, 8), (⟨"HeldBlades$Rain", "findTurn", "(I)V"⟩, 8), (⟨"HeldBlades$Rain", "addToRow", "(I)V"⟩, 8), (⟨"HeldBlades$Rain", "isCycleInside", "()Z"⟩, 8)]
theorem lw_r3 : ∀ q ∈ lw_privs_3, lw_okq q := List.forall_mem_cons.mpr ⟨lw_p32, List.forall_mem_cons.mpr ⟨lw_p33, List.forall_mem_cons.mpr ⟨lw_p34, List.forall_mem_cons.mpr ⟨lw_p35, List.forall_mem_cons.mpr ⟨lw_p36, List.forall_mem_cons.mpr ⟨lw_p37, List.forall_mem_cons.mpr ⟨lw_p38, List.forall_mem_cons.mpr ⟨lw_p39, List.forall_mem_cons.mpr ⟨lw_p40, List.forall_mem_cons.mpr ⟨lw_p41, List.forall_mem_cons.mpr ⟨lw_p42, List.forall_mem_cons.mpr ⟨lw_p43, List.forall_mem_cons.mpr ⟨lw_p44, List.forall_mem_cons.mpr ⟨lw_p45, List.forall_mem_cons.mpr ⟨lw_p46, List.forall_mem_cons.mpr ⟨lw_p47, fun _ h => absurd h List.not_mem_nil⟩⟩⟩⟩⟩⟩⟩⟩⟩⟩⟩⟩⟩⟩⟩⟩
theorem lw_p48 : lw_okq (⟨"HeldBlades$Rain", "addHalves", "(II)V"⟩, 8) := ⟨⟨by decide +kernel, by decide +kernel⟩, List.mem_of_getElem? (i := 260) (by decide +kernel), List.mem_of_getElem? (i := 614) (by decide +kernel), List.mem_of_getElem? (i := 615) (by decide +kernel)⟩
theorem lw_p49 : lw_okq (⟨"HeldBlades$Rain", "placeOf", "(I)I"⟩, 8) := ⟨⟨by decide +kernel, by decide +kernel⟩, List.mem_of_getElem? (i := 260) (by decide +kernel), List.mem_of_getElem? (i := 618) (by decide +kernel), List.mem_of_getElem? (i := 619) (by decide +kernel)⟩
theorem lw_p50 : lw_okq (⟨"HeldBlades$Rain", "halvesOf", "(I)I"⟩, 8) := ⟨⟨by decide +kernel, by decide +kernel⟩, List.mem_of_getElem? (i := 260) (by decide +kernel), List.mem_of_getElem? (i := 622) (by decide +kernel), List.mem_of_getElem? (i := 623) (by decide +kernel)⟩
theorem lw_p51 : lw_okq (⟨"HeldBlades$Rain", "greatestDifference", "()I"⟩, 8) := ⟨⟨by decide +kernel, by decide +kernel⟩, List.mem_of_getElem? (i := 260) (by decide +kernel), List.mem_of_getElem? (i := 630) (by decide +kernel), List.mem_of_getElem? (i := 631) (by decide +kernel)⟩
theorem lw_p52 : lw_okq (⟨"HeldBlades$Rain", "allHalves", "()I"⟩, 8) := ⟨⟨by decide +kernel, by decide +kernel⟩, List.mem_of_getElem? (i := 260) (by decide +kernel), List.mem_of_getElem? (i := 635) (by decide +kernel), List.mem_of_getElem? (i := 636) (by decide +kernel)⟩
theorem lw_p53 : lw_okq (⟨"HeldBlades$Seen", "add", "(III)V"⟩, 5) := ⟨⟨by decide +kernel, by decide +kernel⟩, List.mem_of_getElem? (i := 232) (by decide +kernel), List.mem_of_getElem? (i := 643) (by decide +kernel), List.mem_of_getElem? (i := 644) (by decide +kernel)⟩
theorem lw_p54 : lw_okq (⟨"HeldBlades", "possibleIce", "()I"⟩, 10) := ⟨⟨by decide +kernel, by decide +kernel⟩, List.mem_of_getElem? (i := 16) (by decide +kernel), List.mem_of_getElem? (i := 655) (by decide +kernel), List.mem_of_getElem? (i := 656) (by decide +kernel)⟩
theorem lw_p55 : lw_okq (⟨"HeldBlades", "agreesWithSeen", "(I)Z"⟩, 10) := ⟨⟨by decide +kernel, by decide +kernel⟩, List.mem_of_getElem? (i := 16) (by decide +kernel), List.mem_of_getElem? (i := 659) (by decide +kernel), List.mem_of_getElem? (i := 660) (by decide +kernel)⟩
theorem lw_p56 : lw_okq (⟨"HeldBlades", "speedAfter", "(III)I"⟩, 10) := ⟨⟨by decide +kernel, by decide +kernel⟩, List.mem_of_getElem? (i := 16) (by decide +kernel), List.mem_of_getElem? (i := 663) (by decide +kernel), List.mem_of_getElem? (i := 664) (by decide +kernel)⟩
theorem lw_p57 : lw_okq (⟨"HeldBlades", "mostAlike", "(II)I"⟩, 10) := ⟨⟨by decide +kernel, by decide +kernel⟩, List.mem_of_getElem? (i := 16) (by decide +kernel), List.mem_of_getElem? (i := 677) (by decide +kernel), List.mem_of_getElem? (i := 678) (by decide +kernel)⟩
theorem lw_p58 : lw_okq (⟨"HeldBlades", "alikeUpTo", "(II)I"⟩, 10) := ⟨⟨by decide +kernel, by decide +kernel⟩, List.mem_of_getElem? (i := 16) (by decide +kernel), List.mem_of_getElem? (i := 681) (by decide +kernel), List.mem_of_getElem? (i := 682) (by decide +kernel)⟩
theorem lw_p59 : lw_okq (⟨"HeldBladesModel", "plain", "()V"⟩, 26) := ⟨⟨by decide +kernel, by decide +kernel⟩, List.mem_of_getElem? (i := 699) (by decide +kernel), List.mem_of_getElem? (i := 705) (by decide +kernel), List.mem_of_getElem? (i := 706) (by decide +kernel)⟩
theorem lw_p60 : lw_okq (⟨"HeldBladesModel", "takesOver", "()V"⟩, 26) := ⟨⟨by decide +kernel, by decide +kernel⟩, List.mem_of_getElem? (i := 699) (by decide +kernel), List.mem_of_getElem? (i := 709) (by decide +kernel), List.mem_of_getElem? (i := 710) (by decide +kernel)⟩
theorem lw_p61 : lw_okq (⟨"HeldBladesModel", "next", "()V"⟩, 26) := ⟨⟨by decide +kernel, by decide +kernel⟩, List.mem_of_getElem? (i := 699) (by decide +kernel), List.mem_of_getElem? (i := 807) (by decide +kernel), List.mem_of_getElem? (i := 808) (by decide +kernel)⟩
theorem lw_p62 : lw_okq (⟨"HeldBladesModel", "isFigure", "()Z"⟩, 26) := ⟨⟨by decide +kernel, by decide +kernel⟩, List.mem_of_getElem? (i := 699) (by decide +kernel), List.mem_of_getElem? (i := 811) (by decide +kernel), List.mem_of_getElem? (i := 812) (by decide +kernel)⟩
theorem lw_p63 : lw_okq (⟨"HeldBladesModel", "readsItem", "()V"⟩, 26) := ⟨⟨by decide +kernel, by decide +kernel⟩, List.mem_of_getElem? (i := 699) (by decide +kernel), List.mem_of_getElem? (i := 818) (by decide +kernel), List.mem_of_getElem? (i := 819) (by decide +kernel)⟩
def lw_privs_4 : List (MethodName × Nat) := [(⟨"HeldBlades$Rain", "addHalves", "(II)V"⟩, 8), (⟨"HeldBlades$Rain", "placeOf", "(I)I"⟩, 8), (⟨"HeldBlades$Rain", "halvesOf", "(I)I"⟩, 8), (⟨"HeldBlades$Rain", "greatestDifference", "()I"⟩, 8), (⟨"HeldBlades$Rain", "allHalves", "()I"⟩, 8), (⟨"HeldBlades$Seen", "add", "(III)V"⟩, 5), (⟨"HeldBlades", "possibleIce", "()I"⟩, 10), (⟨"HeldBlades", "agreesWithSeen", "(I)Z"⟩, 10), (⟨"HeldBlades", "speedAfter", "(III)I"⟩, 10), (⟨"HeldBlades", "mostAlike", "(II)I"⟩, 10), (⟨"HeldBlades", "alikeUpTo", "(II)I"⟩, 10), (⟨"HeldBladesModel", "plain", "()V"⟩, 26), (⟨"HeldBladesModel", "takesOver", "()V"⟩, 26), (⟨"HeldBladesModel", "next", "()V"⟩, 26), (⟨"HeldBladesModel", "isFigure", "()Z"⟩, 26), (⟨"HeldBladesModel", "readsItem", "()V"⟩, 26)]
theorem lw_r4 : ∀ q ∈ lw_privs_4, lw_okq q := List.forall_mem_cons.mpr ⟨lw_p48, List.forall_mem_cons.mpr ⟨lw_p49, List.forall_mem_cons.mpr ⟨lw_p50, List.forall_mem_cons.mpr ⟨lw_p51, List.forall_mem_cons.mpr ⟨lw_p52, List.forall_mem_cons.mpr ⟨lw_p53, List.forall_mem_cons.mpr ⟨lw_p54, List.forall_mem_cons.mpr ⟨lw_p55, List.forall_mem_cons.mpr ⟨lw_p56, List.forall_mem_cons.mpr ⟨lw_p57, List.forall_mem_cons.mpr ⟨lw_p58, List.forall_mem_cons.mpr ⟨lw_p59, List.forall_mem_cons.mpr ⟨lw_p60, List.forall_mem_cons.mpr ⟨lw_p61, List.forall_mem_cons.mpr ⟨lw_p62, List.forall_mem_cons.mpr ⟨lw_p63, fun _ h => absurd h List.not_mem_nil⟩⟩⟩⟩⟩⟩⟩⟩⟩⟩⟩⟩⟩⟩⟩⟩
theorem lw_p64 : lw_okq (⟨"HeldBladesModel", "isToldAlready", "(I)Z"⟩, 26) := ⟨⟨by decide +kernel, by decide +kernel⟩, List.mem_of_getElem? (i := 699) (by decide +kernel), List.mem_of_getElem? (i := 822) (by decide +kernel), List.mem_of_getElem? (i := 823) (by decide +kernel)⟩
theorem lw_p65 : lw_okq (⟨"HeldBladesModel", "must", "(Z)V"⟩, 26) := ⟨⟨by decide +kernel, by decide +kernel⟩, List.mem_of_getElem? (i := 699) (by decide +kernel), List.mem_of_getElem? (i := 826) (by decide +kernel), List.mem_of_getElem? (i := 827) (by decide +kernel)⟩
theorem lw_p66 : lw_okq (⟨"HeldBladesModel", "leastOf", "(I)I"⟩, 26) := ⟨⟨by decide +kernel, by decide +kernel⟩, List.mem_of_getElem? (i := 699) (by decide +kernel), List.mem_of_getElem? (i := 830) (by decide +kernel), List.mem_of_getElem? (i := 831) (by decide +kernel)⟩
theorem lw_p67 : lw_okq (⟨"HeldBladesModel", "notes", "()V"⟩, 26) := ⟨⟨by decide +kernel, by decide +kernel⟩, List.mem_of_getElem? (i := 699) (by decide +kernel), List.mem_of_getElem? (i := 841) (by decide +kernel), List.mem_of_getElem? (i := 842) (by decide +kernel)⟩
theorem lw_p68 : lw_okq (⟨"HeldBladesModel", "becomes", "(II)I"⟩, 26) := ⟨⟨by decide +kernel, by decide +kernel⟩, List.mem_of_getElem? (i := 699) (by decide +kernel), List.mem_of_getElem? (i := 853) (by decide +kernel), List.mem_of_getElem? (i := 854) (by decide +kernel)⟩
theorem lw_p69 : lw_okq (⟨"HeldBladesModel", "goesOn", "([I)V"⟩, 26) := ⟨⟨by decide +kernel, by decide +kernel⟩, List.mem_of_getElem? (i := 699) (by decide +kernel), List.mem_of_getElem? (i := 869) (by decide +kernel), List.mem_of_getElem? (i := 870) (by decide +kernel)⟩
theorem lw_p70 : lw_okq (⟨"HeldBladesModel", "counts", "([I)V"⟩, 26) := ⟨⟨by decide +kernel, by decide +kernel⟩, List.mem_of_getElem? (i := 699) (by decide +kernel), List.mem_of_getElem? (i := 873) (by decide +kernel), List.mem_of_getElem? (i := 874) (by decide +kernel)⟩
theorem lw_p71 : lw_okq (⟨"HeldBladesModel", "modeOf", "([I)I"⟩, 26) := ⟨⟨by decide +kernel, by decide +kernel⟩, List.mem_of_getElem? (i := 699) (by decide +kernel), List.mem_of_getElem? (i := 877) (by decide +kernel), List.mem_of_getElem? (i := 878) (by decide +kernel)⟩
theorem lw_p72 : lw_okq (⟨"HeldBladesModel", "isWound", "([I)Z"⟩, 26) := ⟨⟨by decide +kernel, by decide +kernel⟩, List.mem_of_getElem? (i := 699) (by decide +kernel), List.mem_of_getElem? (i := 881) (by decide +kernel), List.mem_of_getElem? (i := 882) (by decide +kernel)⟩
theorem lw_p73 : lw_okq (⟨"HeldBladesModel", "errorOf", "([I)I"⟩, 26) := ⟨⟨by decide +kernel, by decide +kernel⟩, List.mem_of_getElem? (i := 699) (by decide +kernel), List.mem_of_getElem? (i := 888) (by decide +kernel), List.mem_of_getElem? (i := 889) (by decide +kernel)⟩
theorem lw_p74 : lw_okq (⟨"HeldBladesModel", "holds", "([I)V"⟩, 26) := ⟨⟨by decide +kernel, by decide +kernel⟩, List.mem_of_getElem? (i := 699) (by decide +kernel), List.mem_of_getElem? (i := 892) (by decide +kernel), List.mem_of_getElem? (i := 893) (by decide +kernel)⟩
theorem lw_p75 : lw_okq (⟨"HeldBladesModel", "pitchGoal", "([I)I"⟩, 26) := ⟨⟨by decide +kernel, by decide +kernel⟩, List.mem_of_getElem? (i := 699) (by decide +kernel), List.mem_of_getElem? (i := 896) (by decide +kernel), List.mem_of_getElem? (i := 897) (by decide +kernel)⟩
theorem lw_p76 : lw_okq (⟨"HeldBladesModel", "driveOf", "([I)I"⟩, 26) := ⟨⟨by decide +kernel, by decide +kernel⟩, List.mem_of_getElem? (i := 699) (by decide +kernel), List.mem_of_getElem? (i := 903) (by decide +kernel), List.mem_of_getElem? (i := 904) (by decide +kernel)⟩
theorem lw_p77 : lw_okq (⟨"HeldBladesModel", "looksUp", "([II)V"⟩, 26) := ⟨⟨by decide +kernel, by decide +kernel⟩, List.mem_of_getElem? (i := 699) (by decide +kernel), List.mem_of_getElem? (i := 907) (by decide +kernel), List.mem_of_getElem? (i := 908) (by decide +kernel)⟩
theorem lw_p78 : lw_okq (⟨"HeldBladesModel", "turns", "([II)V"⟩, 26) := ⟨⟨by decide +kernel, by decide +kernel⟩, List.mem_of_getElem? (i := 699) (by decide +kernel), List.mem_of_getElem? (i := 911) (by decide +kernel), List.mem_of_getElem? (i := 912) (by decide +kernel)⟩
theorem lw_p79 : lw_okq (⟨"HeldBladesModel", "notesSpeed", "()V"⟩, 26) := ⟨⟨by decide +kernel, by decide +kernel⟩, List.mem_of_getElem? (i := 699) (by decide +kernel), List.mem_of_getElem? (i := 915) (by decide +kernel), List.mem_of_getElem? (i := 916) (by decide +kernel)⟩
def lw_privs_5 : List (MethodName × Nat) := [(⟨"HeldBladesModel", "isToldAlready", "(I)Z"⟩, 26), (⟨"HeldBladesModel", "must", "(Z)V"⟩, 26), (⟨"HeldBladesModel", "leastOf", "(I)I"⟩, 26), (⟨"HeldBladesModel", "notes", "()V"⟩, 26), (⟨"HeldBladesModel", "becomes", "(II)I"⟩, 26), (⟨"HeldBladesModel", "goesOn", "([I)V"⟩, 26), (⟨"HeldBladesModel", "counts", "([I)V"⟩, 26), (⟨"HeldBladesModel", "modeOf", "([I)I"⟩, 26), (⟨"HeldBladesModel", "isWound", "([I)Z"⟩, 26), (⟨"HeldBladesModel", "errorOf", "([I)I"⟩, 26), (⟨"HeldBladesModel", "holds", "([I)V"⟩, 26), (⟨"HeldBladesModel", "pitchGoal", "([I)I"⟩, 26), (⟨"HeldBladesModel", "driveOf", "([I)I"⟩, 26), (⟨"HeldBladesModel", "looksUp", "([II)V"⟩, 26), (⟨"HeldBladesModel", "turns", "([II)V"⟩, 26), (⟨"HeldBladesModel", "notesSpeed", "()V"⟩, 26)]
theorem lw_r5 : ∀ q ∈ lw_privs_5, lw_okq q := List.forall_mem_cons.mpr ⟨lw_p64, List.forall_mem_cons.mpr ⟨lw_p65, List.forall_mem_cons.mpr ⟨lw_p66, List.forall_mem_cons.mpr ⟨lw_p67, List.forall_mem_cons.mpr ⟨lw_p68, List.forall_mem_cons.mpr ⟨lw_p69, List.forall_mem_cons.mpr ⟨lw_p70, List.forall_mem_cons.mpr ⟨lw_p71, List.forall_mem_cons.mpr ⟨lw_p72, List.forall_mem_cons.mpr ⟨lw_p73, List.forall_mem_cons.mpr ⟨lw_p74, List.forall_mem_cons.mpr ⟨lw_p75, List.forall_mem_cons.mpr ⟨lw_p76, List.forall_mem_cons.mpr ⟨lw_p77, List.forall_mem_cons.mpr ⟨lw_p78, List.forall_mem_cons.mpr ⟨lw_p79, fun _ h => absurd h List.not_mem_nil⟩⟩⟩⟩⟩⟩⟩⟩⟩⟩⟩⟩⟩⟩⟩⟩
theorem lw_p80 : lw_okq (⟨"HeldBladesModel", "bears", "(II)Z"⟩, 26) := ⟨⟨by decide +kernel, by decide +kernel⟩, List.mem_of_getElem? (i := 699) (by decide +kernel), List.mem_of_getElem? (i := 940) (by decide +kernel), List.mem_of_getElem? (i := 941) (by decide +kernel)⟩
theorem lw_p81 : lw_okq (⟨"HeldBladesModel", "tries", "()V"⟩, 26) := ⟨⟨by decide +kernel, by decide +kernel⟩, List.mem_of_getElem? (i := 699) (by decide +kernel), List.mem_of_getElem? (i := 944) (by decide +kernel), List.mem_of_getElem? (i := 945) (by decide +kernel)⟩
theorem lw_p82 : lw_okq (⟨"HeldBladesModel", "rides", "(I)Z"⟩, 26) := ⟨⟨by decide +kernel, by decide +kernel⟩, List.mem_of_getElem? (i := 699) (by decide +kernel), List.mem_of_getElem? (i := 952) (by decide +kernel), List.mem_of_getElem? (i := 953) (by decide +kernel)⟩
theorem lw_p83 : lw_okq (⟨"HeldBladesModel", "halvesOf", "(I)I"⟩, 26) := ⟨⟨by decide +kernel, by decide +kernel⟩, List.mem_of_getElem? (i := 699) (by decide +kernel), List.mem_of_getElem? (i := 960) (by decide +kernel), List.mem_of_getElem? (i := 961) (by decide +kernel)⟩
theorem lw_p84 : lw_okq (⟨"HeldBladesModel", "rains", "()V"⟩, 26) := ⟨⟨by decide +kernel, by decide +kernel⟩, List.mem_of_getElem? (i := 699) (by decide +kernel), List.mem_of_getElem? (i := 964) (by decide +kernel), List.mem_of_getElem? (i := 965) (by decide +kernel)⟩
theorem lw_p85 : lw_okq (⟨"HeldBladesModel", "findsTurns", "()V"⟩, 26) := ⟨⟨by decide +kernel, by decide +kernel⟩, List.mem_of_getElem? (i := 699) (by decide +kernel), List.mem_of_getElem? (i := 968) (by decide +kernel), List.mem_of_getElem? (i := 969) (by decide +kernel)⟩
theorem lw_p86 : lw_okq (⟨"HeldBladesModel", "unlikeOnes", "()I"⟩, 26) := ⟨⟨by decide +kernel, by decide +kernel⟩, List.mem_of_getElem? (i := 699) (by decide +kernel), List.mem_of_getElem? (i := 972) (by decide +kernel), List.mem_of_getElem? (i := 973) (by decide +kernel)⟩
theorem lw_p87 : lw_okq (⟨"HeldBladesModel", "closes", "()Z"⟩, 26) := ⟨⟨by decide +kernel, by decide +kernel⟩, List.mem_of_getElem? (i := 699) (by decide +kernel), List.mem_of_getElem? (i := 976) (by decide +kernel), List.mem_of_getElem? (i := 977) (by decide +kernel)⟩
theorem lw_p88 : lw_okq (⟨"HeldBladesModel", "isSo", "(I)Z"⟩, 26) := ⟨⟨by decide +kernel, by decide +kernel⟩, List.mem_of_getElem? (i := 699) (by decide +kernel), List.mem_of_getElem? (i := 996) (by decide +kernel), List.mem_of_getElem? (i := 997) (by decide +kernel)⟩
theorem lw_p89 : lw_okq (⟨"HeldBladesModel", "speedBy", "(III)I"⟩, 26) := ⟨⟨by decide +kernel, by decide +kernel⟩, List.mem_of_getElem? (i := 699) (by decide +kernel), List.mem_of_getElem? (i := 1000) (by decide +kernel), List.mem_of_getElem? (i := 1001) (by decide +kernel)⟩
theorem lw_p90 : lw_okq (⟨"HeldBladesModel", "mostAlike", "(II)I"⟩, 26) := ⟨⟨by decide +kernel, by decide +kernel⟩, List.mem_of_getElem? (i := 699) (by decide +kernel), List.mem_of_getElem? (i := 1009) (by decide +kernel), List.mem_of_getElem? (i := 1010) (by decide +kernel)⟩
def lw_privs_6 : List (MethodName × Nat) := [(⟨"HeldBladesModel", "bears", "(II)Z"⟩, 26), (⟨"HeldBladesModel", "tries", "()V"⟩, 26), (⟨"HeldBladesModel", "rides", "(I)Z"⟩, 26), (⟨"HeldBladesModel", "halvesOf", "(I)I"⟩, 26), (⟨"HeldBladesModel", "rains", "()V"⟩, 26), (⟨"HeldBladesModel", "findsTurns", "()V"⟩, 26), (⟨"HeldBladesModel", "unlikeOnes", "()I"⟩, 26), (⟨"HeldBladesModel", "closes", "()Z"⟩, 26), (⟨"HeldBladesModel", "isSo", "(I)Z"⟩, 26), (⟨"HeldBladesModel", "speedBy", "(III)I"⟩, 26), (⟨"HeldBladesModel", "mostAlike", "(II)I"⟩, 26)]
theorem lw_r6 : ∀ q ∈ lw_privs_6, lw_okq q := List.forall_mem_cons.mpr ⟨lw_p80, List.forall_mem_cons.mpr ⟨lw_p81, List.forall_mem_cons.mpr ⟨lw_p82, List.forall_mem_cons.mpr ⟨lw_p83, List.forall_mem_cons.mpr ⟨lw_p84, List.forall_mem_cons.mpr ⟨lw_p85, List.forall_mem_cons.mpr ⟨lw_p86, List.forall_mem_cons.mpr ⟨lw_p87, List.forall_mem_cons.mpr ⟨lw_p88, List.forall_mem_cons.mpr ⟨lw_p89, List.forall_mem_cons.mpr ⟨lw_p90, fun _ h => absurd h List.not_mem_nil⟩⟩⟩⟩⟩⟩⟩⟩⟩⟩⟩
def lw_privs : List (MethodName × Nat) := lw_privs_1 ++ (lw_privs_2 ++ (lw_privs_3 ++ (lw_privs_4 ++ (lw_privs_5 ++ (lw_privs_6)))))
def lw_tbl : List Cond := k2_sels lw_privs ++ tables_1
theorem lw_privs_ok : ∀ q ∈ lw_privs, lw_okq q := by
  show ∀ q ∈ lw_privs_1 ++ (lw_privs_2 ++ (lw_privs_3 ++ (lw_privs_4 ++ (lw_privs_5 ++ (lw_privs_6))))), lw_okq q
  exact List.forall_mem_append.mpr ⟨lw_r1, List.forall_mem_append.mpr ⟨lw_r2, List.forall_mem_append.mpr ⟨lw_r3, List.forall_mem_append.mpr ⟨lw_r4, List.forall_mem_append.mpr ⟨lw_r5, lw_r6⟩⟩⟩⟩⟩
def RX0 : String := "HeldBlades$Moment"
def TX0 : u_T := fun k => match k with
  | 0 => ("HeldBlades$Moment", "wheel", "LHeldBlades$Wheel;", true)
  | 1 => ("HeldBlades$Moment", "trace", "LHeldBlades$Trace;", true)
  | 2 => ("HeldBlades$Moment", "ticksEver", "I", false)
  | _ => ("HeldBlades$Moment", "trips", "I", false)
def tyX0 : Nat → FieldType := fun k => match k with
  | 0 => .object "HeldBlades$Wheel"
  | 1 => .object "HeldBlades$Trace"
  | 2 => .int
  | _ => .int
abbrev wsX00 : List Cond := u_ws RX0 TX0 4
theorem nmX0 : ∀ a, a < 4 → ∀ b, b < 4 → a ≠ b → (TX0 a).2.1 ≠ (TX0 b).2.1 := by decide +kernel
theorem tyX0_ok : ∀ k, k < 4 → parseFieldDescriptor (TX0 k).2.2.1 = some (tyX0 k) := by decide +kernel
abbrev cX0_init : ByteArray := prog_2_method_1_code
def yX0_init : MethodName := ⟨RX0, "<init>", "()V"⟩
abbrev cX0_startAnew : ByteArray := prog_2_method_2_code
def yX0_startAnew : MethodName := ⟨RX0, "startAnew", "()V"⟩
abbrev cX0_become : ByteArray := prog_2_method_3_code
def yX0_become : MethodName := ⟨RX0, "become", "(LHeldBlades$Moment;)V"⟩
abbrev cX0_tick : ByteArray := prog_2_method_4_code
def yX0_tick : MethodName := ⟨RX0, "tick", "(LHeldBlades$Settings;)V"⟩
def RX1 : String := "HeldBlades$Past"
def TX1 : u_T := fun k => match k with
  | 0 => ("HeldBlades$Past", "moments", "[LHeldBlades$Moment;", true)
  | 1 => ("HeldBlades$Past", "next", "I", false)
  | _ => ("HeldBlades$Past", "size", "I", false)
def tyX1 : Nat → FieldType := fun k => match k with
  | 0 => .array (.object "HeldBlades$Moment")
  | 1 => .int
  | _ => .int
abbrev wsX10 : List Cond := u_ws RX1 TX1 3
theorem nmX1 : ∀ a, a < 3 → ∀ b, b < 3 → a ≠ b → (TX1 a).2.1 ≠ (TX1 b).2.1 := by decide +kernel
theorem tyX1_ok : ∀ k, k < 3 → parseFieldDescriptor (TX1 k).2.2.1 = some (tyX1 k) := by decide +kernel
abbrev cX1_init : ByteArray := prog_3_method_1_code
def yX1_init : MethodName := ⟨RX1, "<init>", "()V"⟩
abbrev cX1_lose : ByteArray := prog_3_method_2_code
def yX1_lose : MethodName := ⟨RX1, "lose", "()V"⟩
abbrev cX1_add : ByteArray := prog_3_method_3_code
def yX1_add : MethodName := ⟨RX1, "add", "(LHeldBlades$Moment;)V"⟩
abbrev cX1_takeLatest : ByteArray := prog_3_method_4_code
def yX1_takeLatest : MethodName := ⟨RX1, "takeLatest", "(LHeldBlades$Moment;)V"⟩
def RX2 : String := "HeldBlades$Rain"
def TX2 : u_T := fun k => match k with
  | 0 => ("HeldBlades$Rain", "turns", "[I", true)
  | 1 => ("HeldBlades$Rain", "turnCount", "I", false)
  | 2 => ("HeldBlades$Rain", "row", "[I", true)
  | 3 => ("HeldBlades$Rain", "rowSize", "I", false)
  | 4 => ("HeldBlades$Rain", "differences", "[I", true)
  | 5 => ("HeldBlades$Rain", "halfCounts", "[I", true)
  | 6 => ("HeldBlades$Rain", "kinds", "I", false)
  | _ => ("HeldBlades$Rain", "cycles", "I", false)
def tyX2 : Nat → FieldType := fun k => match k with
  | 0 => .array .int
  | 1 => .int
  | 2 => .array .int
  | 3 => .int
  | 4 => .array .int
  | 5 => .array .int
  | 6 => .int
  | _ => .int
abbrev wsX20 : List Cond := u_ws RX2 TX2 8
theorem nmX2 : ∀ a, a < 8 → ∀ b, b < 8 → a ≠ b → (TX2 a).2.1 ≠ (TX2 b).2.1 := by decide +kernel
theorem tyX2_ok : ∀ k, k < 8 → parseFieldDescriptor (TX2 k).2.2.1 = some (tyX2 k) := by decide +kernel
abbrev cX2_init : ByteArray := prog_4_method_1_code
def yX2_init : MethodName := ⟨RX2, "<init>", "()V"⟩
abbrev cX2_pour : ByteArray := prog_4_method_2_code
def yX2_pour : MethodName := ⟨RX2, "pour", "(LHeldBlades$Trace;)V"⟩
abbrev cX2_findTurn : ByteArray := prog_4_method_3_code
def yX2_findTurn : MethodName := ⟨RX2, "findTurn", "(I)V"⟩
abbrev cX2_addToRow : ByteArray := prog_4_method_4_code
def yX2_addToRow : MethodName := ⟨RX2, "addToRow", "(I)V"⟩
abbrev cX2_isCycleInside : ByteArray := prog_4_method_5_code
def yX2_isCycleInside : MethodName := ⟨RX2, "isCycleInside", "()Z"⟩
abbrev cX2_addHalves : ByteArray := prog_4_method_6_code
def yX2_addHalves : MethodName := ⟨RX2, "addHalves", "(II)V"⟩
abbrev cX2_placeOf : ByteArray := prog_4_method_7_code
def yX2_placeOf : MethodName := ⟨RX2, "placeOf", "(I)I"⟩
abbrev cX2_halvesOf : ByteArray := prog_4_method_8_code
def yX2_halvesOf : MethodName := ⟨RX2, "halvesOf", "(I)I"⟩
abbrev cX2_greatestDifference : ByteArray := prog_4_method_9_code
def yX2_greatestDifference : MethodName := ⟨RX2, "greatestDifference", "()I"⟩
abbrev cX2_allHalves : ByteArray := prog_4_method_10_code
def yX2_allHalves : MethodName := ⟨RX2, "allHalves", "()I"⟩
def RX3 : String := "HeldBlades$Reader"
def TX3 : u_T := fun k => match k with
  | 0 => ("HeldBlades$Reader", "draft", "LHeldBlades$Settings;", true)
  | 1 => ("HeldBlades$Reader", "awaited", "I", false)
  | 2 => ("HeldBlades$Reader", "what", "I", false)
  | 3 => ("HeldBlades$Reader", "told", "I", false)
  | _ => ("HeldBlades$Reader", "items", "I", false)
def tyX3 : Nat → FieldType := fun k => match k with
  | 0 => .object "HeldBlades$Settings"
  | 1 => .int
  | 2 => .int
  | 3 => .int
  | _ => .int
abbrev wsX30 : List Cond := u_ws RX3 TX3 5
theorem nmX3 : ∀ a, a < 5 → ∀ b, b < 5 → a ≠ b → (TX3 a).2.1 ≠ (TX3 b).2.1 := by decide +kernel
theorem tyX3_ok : ∀ k, k < 5 → parseFieldDescriptor (TX3 k).2.2.1 = some (tyX3 k) := by decide +kernel
abbrev cX3_init : ByteArray := prog_5_method_1_code
def yX3_init : MethodName := ⟨RX3, "<init>", "()V"⟩
abbrev cX3_read : ByteArray := prog_5_method_2_code
def yX3_read : MethodName := ⟨RX3, "read", "(LHeldBlades$Text;)I"⟩
abbrev cX3_takes : ByteArray := prog_5_method_3_code
def yX3_takes : MethodName := ⟨RX3, "takes", "(LHeldBlades$Text;II)Z"⟩
abbrev cX3_takesLetter : ByteArray := prog_5_method_4_code
def yX3_takesLetter : MethodName := ⟨RX3, "takesLetter", "(I)Z"⟩
abbrev cX3_takesNumber : ByteArray := prog_5_method_5_code
def yX3_takesNumber : MethodName := ⟨RX3, "takesNumber", "(I)Z"⟩
abbrev cX3_takesEnd : ByteArray := prog_5_method_6_code
def yX3_takesEnd : MethodName := ⟨RX3, "takesEnd", "(I)Z"⟩
abbrev cX3_isTold : ByteArray := prog_5_method_7_code
def yX3_isTold : MethodName := ⟨RX3, "isTold", "(I)Z"⟩
abbrev cX3_settingOf : ByteArray := prog_5_method_8_code
def yX3_settingOf : MethodName := ⟨RX3, "settingOf", "(I)I"⟩
def RX4 : String := "HeldBlades$Seen"
def TX4 : u_T := fun k => match k with
  | 0 => ("HeldBlades$Seen", "ticks", "[I", true)
  | 1 => ("HeldBlades$Seen", "winds", "[I", true)
  | 2 => ("HeldBlades$Seen", "speeds", "[I", true)
  | 3 => ("HeldBlades$Seen", "speedByIce", "[I", true)
  | _ => ("HeldBlades$Seen", "size", "I", false)
def tyX4 : Nat → FieldType := fun k => match k with
  | 0 => .array .int
  | 1 => .array .int
  | 2 => .array .int
  | 3 => .array .int
  | _ => .int
abbrev wsX40 : List Cond := u_ws RX4 TX4 5
theorem nmX4 : ∀ a, a < 5 → ∀ b, b < 5 → a ≠ b → (TX4 a).2.1 ≠ (TX4 b).2.1 := by decide +kernel
theorem tyX4_ok : ∀ k, k < 5 → parseFieldDescriptor (TX4 k).2.2.1 = some (tyX4 k) := by decide +kernel
abbrev cX4_init : ByteArray := prog_6_method_1_code
def yX4_init : MethodName := ⟨RX4, "<init>", "()V"⟩
abbrev cX4_add : ByteArray := prog_6_method_2_code
def yX4_add : MethodName := ⟨RX4, "add", "(III)V"⟩
def RX5 : String := "HeldBlades$Settings"
def TX5 : u_T := fun k => match k with
  | 0 => ("HeldBlades$Settings", "rated", "I", false)
  | 1 => ("HeldBlades$Settings", "trip", "I", false)
  | 2 => ("HeldBlades$Settings", "cutIn", "I", false)
  | 3 => ("HeldBlades$Settings", "cutOut", "I", false)
  | 4 => ("HeldBlades$Settings", "limit", "I", false)
  | _ => ("HeldBlades$Settings", "rate", "I", false)
def tyX5 : Nat → FieldType := fun k => match k with
  | 0 => .int
  | 1 => .int
  | 2 => .int
  | 3 => .int
  | 4 => .int
  | _ => .int
abbrev wsX50 : List Cond := u_ws RX5 TX5 6
theorem nmX5 : ∀ a, a < 6 → ∀ b, b < 6 → a ≠ b → (TX5 a).2.1 ≠ (TX5 b).2.1 := by decide +kernel
theorem tyX5_ok : ∀ k, k < 6 → parseFieldDescriptor (TX5 k).2.2.1 = some (tyX5 k) := by decide +kernel
abbrev cX5_init : ByteArray := prog_7_method_1_code
def yX5_init : MethodName := ⟨RX5, "<init>", "()V"⟩
abbrev cX5_startAnew : ByteArray := prog_7_method_2_code
def yX5_startAnew : MethodName := ⟨RX5, "startAnew", "()V"⟩
abbrev cX5_become : ByteArray := prog_7_method_3_code
def yX5_become : MethodName := ⟨RX5, "become", "(LHeldBlades$Settings;)V"⟩
abbrev cX5_tell : ByteArray := prog_7_method_4_code
def yX5_tell : MethodName := ⟨RX5, "tell", "(I)I"⟩
abbrev cX5_mayBe : ByteArray := prog_7_method_5_code
def yX5_mayBe : MethodName := ⟨RX5, "mayBe", "(II)Z"⟩
abbrev cX5_put : ByteArray := prog_7_method_6_code
def yX5_put : MethodName := ⟨RX5, "put", "(II)V"⟩
def RX6 : String := "HeldBlades$Text"
def TX6 : u_T := fun k => match k with
  | 0 => ("HeldBlades$Text", "letters", "[I", true)
  | _ => ("HeldBlades$Text", "length", "I", false)
def tyX6 : Nat → FieldType := fun k => match k with
  | 0 => .array .int
  | _ => .int
abbrev wsX60 : List Cond := u_ws RX6 TX6 2
theorem nmX6 : ∀ a, a < 2 → ∀ b, b < 2 → a ≠ b → (TX6 a).2.1 ≠ (TX6 b).2.1 := by decide +kernel
theorem tyX6_ok : ∀ k, k < 2 → parseFieldDescriptor (TX6 k).2.2.1 = some (tyX6 k) := by decide +kernel
abbrev cX6_init : ByteArray := prog_8_method_1_code
def yX6_init : MethodName := ⟨RX6, "<init>", "()V"⟩
abbrev cX6_append : ByteArray := prog_8_method_2_code
def yX6_append : MethodName := ⟨RX6, "append", "(I)V"⟩
abbrev cX6_letterAt : ByteArray := prog_8_method_3_code
def yX6_letterAt : MethodName := ⟨RX6, "letterAt", "(I)I"⟩
abbrev cX6_isFigureAt : ByteArray := prog_8_method_4_code
def yX6_isFigureAt : MethodName := ⟨RX6, "isFigureAt", "(I)Z"⟩
abbrev cX6_behindBlanks : ByteArray := prog_8_method_5_code
def yX6_behindBlanks : MethodName := ⟨RX6, "behindBlanks", "(I)I"⟩
abbrev cX6_behindToken : ByteArray := prog_8_method_6_code
def yX6_behindToken : MethodName := ⟨RX6, "behindToken", "(I)I"⟩
abbrev cX6_numberAt : ByteArray := prog_8_method_7_code
def yX6_numberAt : MethodName := ⟨RX6, "numberAt", "(II)I"⟩
def RX7 : String := "HeldBlades$Trace"
def TX7 : u_T := fun k => match k with
  | 0 => ("HeldBlades$Trace", "speeds", "[I", true)
  | 1 => ("HeldBlades$Trace", "next", "I", false)
  | _ => ("HeldBlades$Trace", "size", "I", false)
def tyX7 : Nat → FieldType := fun k => match k with
  | 0 => .array .int
  | 1 => .int
  | _ => .int
abbrev wsX70 : List Cond := u_ws RX7 TX7 3
theorem nmX7 : ∀ a, a < 3 → ∀ b, b < 3 → a ≠ b → (TX7 a).2.1 ≠ (TX7 b).2.1 := by decide +kernel
theorem tyX7_ok : ∀ k, k < 3 → parseFieldDescriptor (TX7 k).2.2.1 = some (tyX7 k) := by decide +kernel
abbrev cX7_init : ByteArray := prog_9_method_1_code
def yX7_init : MethodName := ⟨RX7, "<init>", "()V"⟩
abbrev cX7_startAnew : ByteArray := prog_9_method_2_code
def yX7_startAnew : MethodName := ⟨RX7, "startAnew", "()V"⟩
abbrev cX7_become : ByteArray := prog_9_method_3_code
def yX7_become : MethodName := ⟨RX7, "become", "(LHeldBlades$Trace;)V"⟩
abbrev cX7_add : ByteArray := prog_9_method_4_code
def yX7_add : MethodName := ⟨RX7, "add", "(I)V"⟩
abbrev cX7_speedAgo : ByteArray := prog_9_method_5_code
def yX7_speedAgo : MethodName := ⟨RX7, "speedAgo", "(I)I"⟩
def RX8 : String := "HeldBlades$Wheel"
def TX8 : u_T := fun k => match k with
  | 0 => ("HeldBlades$Wheel", "mode", "I", false)
  | 1 => ("HeldBlades$Wheel", "speed", "I", false)
  | 2 => ("HeldBlades$Wheel", "pitch", "I", false)
  | 3 => ("HeldBlades$Wheel", "torque", "I", false)
  | 4 => ("HeldBlades$Wheel", "wind", "I", false)
  | 5 => ("HeldBlades$Wheel", "from", "I", false)
  | 6 => ("HeldBlades$Wheel", "heading", "I", false)
  | 7 => ("HeldBlades$Wheel", "twist", "I", false)
  | 8 => ("HeldBlades$Wheel", "ice", "I", false)
  | 9 => ("HeldBlades$Wheel", "gridThere", "Z", false)
  | 10 => ("HeldBlades$Wheel", "wanted", "Z", false)
  | 11 => ("HeldBlades$Wheel", "good", "I", false)
  | 12 => ("HeldBlades$Wheel", "storm", "I", false)
  | 13 => ("HeldBlades$Wheel", "away", "I", false)
  | 14 => ("HeldBlades$Wheel", "off", "I", false)
  | _ => ("HeldBlades$Wheel", "unwinding", "Z", false)
def tyX8 : Nat → FieldType := fun k => match k with
  | 0 => .int
  | 1 => .int
  | 2 => .int
  | 3 => .int
  | 4 => .int
  | 5 => .int
  | 6 => .int
  | 7 => .int
  | 8 => .int
  | 9 => .boolean
  | 10 => .boolean
  | 11 => .int
  | 12 => .int
  | 13 => .int
  | 14 => .int
  | _ => .boolean
abbrev wsX80 : List Cond := u_ws RX8 TX8 16
theorem nmX8 : ∀ a, a < 16 → ∀ b, b < 16 → a ≠ b → (TX8 a).2.1 ≠ (TX8 b).2.1 := by decide +kernel
theorem tyX8_ok : ∀ k, k < 16 → parseFieldDescriptor (TX8 k).2.2.1 = some (tyX8 k) := by decide +kernel
abbrev cX8_init : ByteArray := prog_10_method_1_code
def yX8_init : MethodName := ⟨RX8, "<init>", "()V"⟩
abbrev cX8_startAnew : ByteArray := prog_10_method_2_code
def yX8_startAnew : MethodName := ⟨RX8, "startAnew", "()V"⟩
abbrev cX8_become : ByteArray := prog_10_method_3_code
def yX8_become : MethodName := ⟨RX8, "become", "(LHeldBlades$Wheel;)V"⟩
abbrev cX8_step : ByteArray := prog_10_method_4_code
def yX8_step : MethodName := ⟨RX8, "step", "(LHeldBlades$Settings;)V"⟩
abbrev cX8_nextMode : ByteArray := prog_10_method_5_code
def yX8_nextMode : MethodName := ⟨RX8, "nextMode", "(LHeldBlades$Settings;)I"⟩
abbrev cX8_isWound : ByteArray := prog_10_method_6_code
def yX8_isWound : MethodName := ⟨RX8, "isWound", "(I)Z"⟩
abbrev cX8_pitchAim : ByteArray := prog_10_method_7_code
def yX8_pitchAim : MethodName := ⟨RX8, "pitchAim", "(LHeldBlades$Settings;)I"⟩
abbrev cX8_torqueAim : ByteArray := prog_10_method_8_code
def yX8_torqueAim : MethodName := ⟨RX8, "torqueAim", "(LHeldBlades$Settings;)I"⟩
abbrev cX8_nearer : ByteArray := prog_10_method_9_code
def yX8_nearer : MethodName := ⟨RX8, "nearer", "(III)I"⟩
abbrev cX8_ahead : ByteArray := prog_10_method_10_code
def yX8_ahead : MethodName := ⟨RX8, "ahead", "()I"⟩
abbrev cX8_error : ByteArray := prog_10_method_11_code
def yX8_error : MethodName := ⟨RX8, "error", "()I"⟩
abbrev cX8_drive : ByteArray := prog_10_method_12_code
def yX8_drive : MethodName := ⟨RX8, "drive", "(I)I"⟩
abbrev cX8_drag : ByteArray := prog_10_method_13_code
def yX8_drag : MethodName := ⟨RX8, "drag", "()I"⟩
abbrev cX8_turn : ByteArray := prog_10_method_14_code
def yX8_turn : MethodName := ⟨RX8, "turn", "(I)V"⟩
abbrev cX8_turnBy : ByteArray := prog_10_method_15_code
def yX8_turnBy : MethodName := ⟨RX8, "turnBy", "(I)V"⟩
abbrev cX8_tell : ByteArray := prog_10_method_16_code
def yX8_tell : MethodName := ⟨RX8, "tell", "(I)I"⟩
def RX9 : String := "HeldBlades"
def TX9 : u_T := fun k => match k with
  | 0 => ("HeldBlades", "settings", "LHeldBlades$Settings;", true)
  | 1 => ("HeldBlades", "text", "LHeldBlades$Text;", true)
  | 2 => ("HeldBlades", "reader", "LHeldBlades$Reader;", true)
  | 3 => ("HeldBlades", "present", "LHeldBlades$Moment;", true)
  | 4 => ("HeldBlades", "past", "LHeldBlades$Past;", true)
  | 5 => ("HeldBlades", "images", "[LHeldBlades$Moment;", true)
  | 6 => ("HeldBlades", "kept", "[Z", true)
  | 7 => ("HeldBlades", "seen", "LHeldBlades$Seen;", true)
  | 8 => ("HeldBlades", "roof", "LHeldBlades$Rain;", true)
  | _ => ("HeldBlades", "trial", "LHeldBlades$Wheel;", true)
def tyX9 : Nat → FieldType := fun k => match k with
  | 0 => .object "HeldBlades$Settings"
  | 1 => .object "HeldBlades$Text"
  | 2 => .object "HeldBlades$Reader"
  | 3 => .object "HeldBlades$Moment"
  | 4 => .object "HeldBlades$Past"
  | 5 => .array (.object "HeldBlades$Moment")
  | 6 => .array .boolean
  | 7 => .object "HeldBlades$Seen"
  | 8 => .object "HeldBlades$Rain"
  | _ => .object "HeldBlades$Wheel"
abbrev wsX90 : List Cond := u_ws RX9 TX9 10
theorem nmX9 : ∀ a, a < 10 → ∀ b, b < 10 → a ≠ b → (TX9 a).2.1 ≠ (TX9 b).2.1 := by decide +kernel
theorem tyX9_ok : ∀ k, k < 10 → parseFieldDescriptor (TX9 k).2.2.1 = some (tyX9 k) := by decide +kernel
abbrev cX9_init : ByteArray := prog_1_method_1_code
def yX9_init : MethodName := ⟨RX9, "<init>", "()V"⟩
abbrev cX9_type : ByteArray := prog_1_method_2_code
def yX9_type : MethodName := ⟨RX9, "type", "(I)I"⟩
abbrev cX9_clear : ByteArray := prog_1_method_3_code
def yX9_clear : MethodName := ⟨RX9, "clear", "()I"⟩
abbrev cX9_tells : ByteArray := prog_1_method_4_code
def yX9_tells : MethodName := ⟨RX9, "tells", "()I"⟩
abbrev cX9_loseImages : ByteArray := prog_1_method_5_code
def yX9_loseImages : MethodName := ⟨RX9, "loseImages", "()V"⟩
abbrev cX9_blows : ByteArray := prog_1_method_6_code
def yX9_blows : MethodName := ⟨RX9, "blows", "(II)I"⟩
abbrev cX9_ices : ByteArray := prog_1_method_7_code
def yX9_ices : MethodName := ⟨RX9, "ices", "(I)I"⟩
abbrev cX9_grids : ByteArray := prog_1_method_8_code
def yX9_grids : MethodName := ⟨RX9, "grids", "(I)I"⟩
abbrev cX9_wants : ByteArray := prog_1_method_9_code
def yX9_wants : MethodName := ⟨RX9, "wants", "(I)I"⟩
abbrev cX9_resets : ByteArray := prog_1_method_10_code
def yX9_resets : MethodName := ⟨RX9, "resets", "()I"⟩
abbrev cX9_ticks : ByteArray := prog_1_method_11_code
def yX9_ticks : MethodName := ⟨RX9, "ticks", "(I)I"⟩
abbrev cX9_undo : ByteArray := prog_1_method_12_code
def yX9_undo : MethodName := ⟨RX9, "undo", "()I"⟩
abbrev cX9_now : ByteArray := prog_1_method_13_code
def yX9_now : MethodName := ⟨RX9, "now", "(I)I"⟩
abbrev cX9_setting : ByteArray := prog_1_method_14_code
def yX9_setting : MethodName := ⟨RX9, "setting", "(I)I"⟩
abbrev cX9_record : ByteArray := prog_1_method_15_code
def yX9_record : MethodName := ⟨RX9, "record", "(I)I"⟩
abbrev cX9_gust : ByteArray := prog_1_method_16_code
def yX9_gust : MethodName := ⟨RX9, "gust", "(I)I"⟩
abbrev cX9_bearsGust : ByteArray := prog_1_method_17_code
def yX9_bearsGust : MethodName := ⟨RX9, "bearsGust", "(II)Z"⟩
abbrev cX9_dip : ByteArray := prog_1_method_18_code
def yX9_dip : MethodName := ⟨RX9, "dip", "()I"⟩
abbrev cX9_ridesDip : ByteArray := prog_1_method_19_code
def yX9_ridesDip : MethodName := ⟨RX9, "ridesDip", "(I)Z"⟩
abbrev cX9_halves : ByteArray := prog_1_method_20_code
def yX9_halves : MethodName := ⟨RX9, "halves", "(I)I"⟩
abbrev cX9_rain : ByteArray := prog_1_method_21_code
def yX9_rain : MethodName := ⟨RX9, "rain", "(I)I"⟩
abbrev cX9_sees : ByteArray := prog_1_method_22_code
def yX9_sees : MethodName := ⟨RX9, "sees", "(III)I"⟩
abbrev cX9_forget : ByteArray := prog_1_method_23_code
def yX9_forget : MethodName := ⟨RX9, "forget", "()I"⟩
abbrev cX9_which : ByteArray := prog_1_method_24_code
def yX9_which : MethodName := ⟨RX9, "which", "()I"⟩
abbrev cX9_ask : ByteArray := prog_1_method_25_code
def yX9_ask : MethodName := ⟨RX9, "ask", "()I"⟩
abbrev cX9_possibleIce : ByteArray := prog_1_method_26_code
def yX9_possibleIce : MethodName := ⟨RX9, "possibleIce", "()I"⟩
abbrev cX9_agreesWithSeen : ByteArray := prog_1_method_27_code
def yX9_agreesWithSeen : MethodName := ⟨RX9, "agreesWithSeen", "(I)Z"⟩
abbrev cX9_mostAlike : ByteArray := prog_1_method_28_code
def yX9_mostAlike : MethodName := ⟨RX9, "mostAlike", "(II)I"⟩
abbrev cX9_alikeUpTo : ByteArray := prog_1_method_29_code
def yX9_alikeUpTo : MethodName := ⟨RX9, "alikeUpTo", "(II)I"⟩
abbrev cX9_speedAfter : ByteArray := prog_1_method_30_code
def yX9_speedAfter : MethodName := ⟨RX9, "speedAfter", "(III)I"⟩
abbrev cX9_keep : ByteArray := prog_1_method_31_code
def yX9_keep : MethodName := ⟨RX9, "keep", "(I)I"⟩
abbrev cX9_back : ByteArray := prog_1_method_32_code
def yX9_back : MethodName := ⟨RX9, "back", "(I)I"⟩
abbrev cX9_count : ByteArray := prog_1_method_33_code
def yX9_count : MethodName := ⟨RX9, "count", "(I)I"⟩
abbrev cX9_isWithin : ByteArray := prog_1_method_34_code
def yX9_isWithin : MethodName := ⟨RX9, "isWithin", "(III)Z"⟩
def RX10 : String := "HeldBladesModel"
def TX10 : u_T := fun k => match k with
  | 0 => ("HeldBladesModel", "s", "[I", true)
  | 1 => ("HeldBladesModel", "t", "[I", true)
  | 2 => ("HeldBladesModel", "past", "[I", true)
  | 3 => ("HeldBladesModel", "undos", "I", false)
  | 4 => ("HeldBladesModel", "kept", "[I", true)
  | 5 => ("HeldBladesModel", "isKept", "[Z", true)
  | 6 => ("HeldBladesModel", "set", "[I", true)
  | 7 => ("HeldBladesModel", "text", "[I", true)
  | 8 => ("HeldBladesModel", "typed", "I", false)
  | 9 => ("HeldBladesModel", "at", "I", false)
  | 10 => ("HeldBladesModel", "start", "I", false)
  | 11 => ("HeldBladesModel", "token", "I", false)
  | 12 => ("HeldBladesModel", "value", "I", false)
  | 13 => ("HeldBladesModel", "fault", "I", false)
  | 14 => ("HeldBladesModel", "newSet", "[I", true)
  | 15 => ("HeldBladesModel", "toldOnes", "I", false)
  | 16 => ("HeldBladesModel", "unlike", "[I", true)
  | 17 => ("HeldBladesModel", "turning", "[I", true)
  | 18 => ("HeldBladesModel", "turnMany", "I", false)
  | 19 => ("HeldBladesModel", "row", "[I", true)
  | 20 => ("HeldBladesModel", "rowMany", "I", false)
  | 21 => ("HeldBladesModel", "halves", "[I", true)
  | 22 => ("HeldBladesModel", "cycles", "I", false)
  | 23 => ("HeldBladesModel", "sight", "[I", true)
  | 24 => ("HeldBladesModel", "sights", "I", false)
  | _ => ("HeldBladesModel", "speeds", "[I", true)
def tyX10 : Nat → FieldType := fun k => match k with
  | 0 => .array .int
  | 1 => .array .int
  | 2 => .array .int
  | 3 => .int
  | 4 => .array .int
  | 5 => .array .boolean
  | 6 => .array .int
  | 7 => .array .int
  | 8 => .int
  | 9 => .int
  | 10 => .int
  | 11 => .int
  | 12 => .int
  | 13 => .int
  | 14 => .array .int
  | 15 => .int
  | 16 => .array .int
  | 17 => .array .int
  | 18 => .int
  | 19 => .array .int
  | 20 => .int
  | 21 => .array .int
  | 22 => .int
  | 23 => .array .int
  | 24 => .int
  | _ => .array .int
abbrev wsX100 : List Cond := u_ws RX10 TX10 26
theorem nmX10 : ∀ a, a < 26 → ∀ b, b < 26 → a ≠ b → (TX10 a).2.1 ≠ (TX10 b).2.1 := by decide +kernel
theorem tyX10_ok : ∀ k, k < 26 → parseFieldDescriptor (TX10 k).2.2.1 = some (tyX10 k) := by decide +kernel
abbrev cX10_init : ByteArray := prog_12_method_1_code
def yX10_init : MethodName := ⟨RX10, "<init>", "()V"⟩
abbrev cX10_in : ByteArray := prog_12_method_2_code
def yX10_in : MethodName := ⟨RX10, "in", "(III)Z"⟩
abbrev cX10_away : ByteArray := prog_12_method_3_code
def yX10_away : MethodName := ⟨RX10, "away", "(II)I"⟩
abbrev cX10_type : ByteArray := prog_12_method_4_code
def yX10_type : MethodName := ⟨RX10, "type", "(I)I"⟩
abbrev cX10_clear : ByteArray := prog_12_method_5_code
def yX10_clear : MethodName := ⟨RX10, "clear", "()I"⟩
abbrev cX10_isFigure : ByteArray := prog_12_method_6_code
def yX10_isFigure : MethodName := ⟨RX10, "isFigure", "()Z"⟩
abbrev cX10_next : ByteArray := prog_12_method_7_code
def yX10_next : MethodName := ⟨RX10, "next", "()V"⟩
abbrev cX10_whichOf : ByteArray := prog_12_method_8_code
def yX10_whichOf : MethodName := ⟨RX10, "whichOf", "(I)I"⟩
abbrev cX10_must : ByteArray := prog_12_method_9_code
def yX10_must : MethodName := ⟨RX10, "must", "(Z)V"⟩
abbrev cX10_leastOf : ByteArray := prog_12_method_10_code
def yX10_leastOf : MethodName := ⟨RX10, "leastOf", "(I)I"⟩
abbrev cX10_mostOf : ByteArray := prog_12_method_11_code
def yX10_mostOf : MethodName := ⟨RX10, "mostOf", "(I)I"⟩
abbrev cX10_isToldAlready : ByteArray := prog_12_method_12_code
def yX10_isToldAlready : MethodName := ⟨RX10, "isToldAlready", "(I)Z"⟩
abbrev cX10_readsItem : ByteArray := prog_12_method_13_code
def yX10_readsItem : MethodName := ⟨RX10, "readsItem", "()V"⟩
abbrev cX10_plain : ByteArray := prog_12_method_14_code
def yX10_plain : MethodName := ⟨RX10, "plain", "()V"⟩
abbrev cX10_takesOver : ByteArray := prog_12_method_15_code
def yX10_takesOver : MethodName := ⟨RX10, "takesOver", "()V"⟩
abbrev cX10_tells : ByteArray := prog_12_method_16_code
def yX10_tells : MethodName := ⟨RX10, "tells", "()I"⟩
abbrev cX10_errorOf : ByteArray := prog_12_method_17_code
def yX10_errorOf : MethodName := ⟨RX10, "errorOf", "([I)I"⟩
abbrev cX10_driveOf : ByteArray := prog_12_method_18_code
def yX10_driveOf : MethodName := ⟨RX10, "driveOf", "([I)I"⟩
abbrev cX10_isWound : ByteArray := prog_12_method_19_code
def yX10_isWound : MethodName := ⟨RX10, "isWound", "([I)Z"⟩
abbrev cX10_counts : ByteArray := prog_12_method_20_code
def yX10_counts : MethodName := ⟨RX10, "counts", "([I)V"⟩
abbrev cX10_modeOf : ByteArray := prog_12_method_21_code
def yX10_modeOf : MethodName := ⟨RX10, "modeOf", "([I)I"⟩
abbrev cX10_towards : ByteArray := prog_12_method_22_code
def yX10_towards : MethodName := ⟨RX10, "towards", "(III)I"⟩
abbrev cX10_pitchGoal : ByteArray := prog_12_method_23_code
def yX10_pitchGoal : MethodName := ⟨RX10, "pitchGoal", "([I)I"⟩
abbrev cX10_holds : ByteArray := prog_12_method_24_code
def yX10_holds : MethodName := ⟨RX10, "holds", "([I)V"⟩
abbrev cX10_turns : ByteArray := prog_12_method_25_code
def yX10_turns : MethodName := ⟨RX10, "turns", "([II)V"⟩
abbrev cX10_looksUp : ByteArray := prog_12_method_26_code
def yX10_looksUp : MethodName := ⟨RX10, "looksUp", "([II)V"⟩
abbrev cX10_goesOn : ByteArray := prog_12_method_27_code
def yX10_goesOn : MethodName := ⟨RX10, "goesOn", "([I)V"⟩
abbrev cX10_notesSpeed : ByteArray := prog_12_method_28_code
def yX10_notesSpeed : MethodName := ⟨RX10, "notesSpeed", "()V"⟩
abbrev cX10_notes : ByteArray := prog_12_method_29_code
def yX10_notes : MethodName := ⟨RX10, "notes", "()V"⟩
abbrev cX10_blows : ByteArray := prog_12_method_30_code
def yX10_blows : MethodName := ⟨RX10, "blows", "(II)I"⟩
abbrev cX10_ices : ByteArray := prog_12_method_31_code
def yX10_ices : MethodName := ⟨RX10, "ices", "(I)I"⟩
abbrev cX10_becomes : ByteArray := prog_12_method_32_code
def yX10_becomes : MethodName := ⟨RX10, "becomes", "(II)I"⟩
abbrev cX10_grids : ByteArray := prog_12_method_33_code
def yX10_grids : MethodName := ⟨RX10, "grids", "(I)I"⟩
abbrev cX10_wants : ByteArray := prog_12_method_34_code
def yX10_wants : MethodName := ⟨RX10, "wants", "(I)I"⟩
abbrev cX10_resets : ByteArray := prog_12_method_35_code
def yX10_resets : MethodName := ⟨RX10, "resets", "()I"⟩
abbrev cX10_ticks : ByteArray := prog_12_method_36_code
def yX10_ticks : MethodName := ⟨RX10, "ticks", "(I)I"⟩
abbrev cX10_undo : ByteArray := prog_12_method_37_code
def yX10_undo : MethodName := ⟨RX10, "undo", "()I"⟩
abbrev cX10_now : ByteArray := prog_12_method_38_code
def yX10_now : MethodName := ⟨RX10, "now", "(I)I"⟩
abbrev cX10_setting : ByteArray := prog_12_method_39_code
def yX10_setting : MethodName := ⟨RX10, "setting", "(I)I"⟩
abbrev cX10_record : ByteArray := prog_12_method_40_code
def yX10_record : MethodName := ⟨RX10, "record", "(I)I"⟩
abbrev cX10_tries : ByteArray := prog_12_method_41_code
def yX10_tries : MethodName := ⟨RX10, "tries", "()V"⟩
abbrev cX10_bears : ByteArray := prog_12_method_42_code
def yX10_bears : MethodName := ⟨RX10, "bears", "(II)Z"⟩
abbrev cX10_gust : ByteArray := prog_12_method_43_code
def yX10_gust : MethodName := ⟨RX10, "gust", "(I)I"⟩
abbrev cX10_rides : ByteArray := prog_12_method_44_code
def yX10_rides : MethodName := ⟨RX10, "rides", "(I)Z"⟩
abbrev cX10_dip : ByteArray := prog_12_method_45_code
def yX10_dip : MethodName := ⟨RX10, "dip", "()I"⟩
abbrev cX10_unlikeOnes : ByteArray := prog_12_method_46_code
def yX10_unlikeOnes : MethodName := ⟨RX10, "unlikeOnes", "()I"⟩
abbrev cX10_findsTurns : ByteArray := prog_12_method_47_code
def yX10_findsTurns : MethodName := ⟨RX10, "findsTurns", "()V"⟩
abbrev cX10_closes : ByteArray := prog_12_method_48_code
def yX10_closes : MethodName := ⟨RX10, "closes", "()Z"⟩
abbrev cX10_rains : ByteArray := prog_12_method_49_code
def yX10_rains : MethodName := ⟨RX10, "rains", "()V"⟩
abbrev cX10_halvesOf : ByteArray := prog_12_method_50_code
def yX10_halvesOf : MethodName := ⟨RX10, "halvesOf", "(I)I"⟩
abbrev cX10_halves : ByteArray := prog_12_method_51_code
def yX10_halves : MethodName := ⟨RX10, "halves", "(I)I"⟩
abbrev cX10_rain : ByteArray := prog_12_method_52_code
def yX10_rain : MethodName := ⟨RX10, "rain", "(I)I"⟩
abbrev cX10_sees : ByteArray := prog_12_method_53_code
def yX10_sees : MethodName := ⟨RX10, "sees", "(III)I"⟩
abbrev cX10_forget : ByteArray := prog_12_method_54_code
def yX10_forget : MethodName := ⟨RX10, "forget", "()I"⟩
abbrev cX10_speedBy : ByteArray := prog_12_method_55_code
def yX10_speedBy : MethodName := ⟨RX10, "speedBy", "(III)I"⟩
abbrev cX10_isSo : ByteArray := prog_12_method_56_code
def yX10_isSo : MethodName := ⟨RX10, "isSo", "(I)Z"⟩
abbrev cX10_which : ByteArray := prog_12_method_57_code
def yX10_which : MethodName := ⟨RX10, "which", "()I"⟩
abbrev cX10_mostAlike : ByteArray := prog_12_method_58_code
def yX10_mostAlike : MethodName := ⟨RX10, "mostAlike", "(II)I"⟩
abbrev cX10_ask : ByteArray := prog_12_method_59_code
def yX10_ask : MethodName := ⟨RX10, "ask", "()I"⟩
abbrev cX10_keep : ByteArray := prog_12_method_60_code
def yX10_keep : MethodName := ⟨RX10, "keep", "(I)I"⟩
abbrev cX10_back : ByteArray := prog_12_method_61_code
def yX10_back : MethodName := ⟨RX10, "back", "(I)I"⟩
abbrev cX10_count : ByteArray := prog_12_method_62_code
def yX10_count : MethodName := ⟨RX10, "count", "(I)I"⟩
def RJ6 : String := "java/lang/Integer"
def TJ6 : u_T := fun k => match k with
  | _ => ("", "", "", false)
def tyJ6 : Nat → FieldType := fun k => match k with
  | _ => .int
abbrev wsJ60 : List Cond := u_ws RJ6 TJ6 0
theorem nmJ6 : ∀ a, a < 0 → ∀ b, b < 0 → a ≠ b → (TJ6 a).2.1 ≠ (TJ6 b).2.1 := by decide +kernel
theorem tyJ6_ok : ∀ k, k < 0 → parseFieldDescriptor (TJ6 k).2.2.1 = some (tyJ6 k) := by decide +kernel
abbrev cJ6_bitCount_0f7a4 : ByteArray := prog_13_method_49_code
def yJ6_bitCount_0f7a4 : MethodName := ⟨RJ6, "bitCount", "(I)I"⟩
def RJ9 : String := "java/lang/Math"
def TJ9 : u_T := fun k => match k with
  | _ => ("", "", "", false)
def tyJ9 : Nat → FieldType := fun k => match k with
  | _ => .int
abbrev wsJ90 : List Cond := u_ws RJ9 TJ9 0
theorem nmJ9 : ∀ a, a < 0 → ∀ b, b < 0 → a ≠ b → (TJ9 a).2.1 ≠ (TJ9 b).2.1 := by decide +kernel
theorem tyJ9_ok : ∀ k, k < 0 → parseFieldDescriptor (TJ9 k).2.2.1 = some (tyJ9 k) := by decide +kernel
abbrev cJ9_floorDiv_7cf53 : ByteArray := prog_14_method_47_code
def yJ9_floorDiv_7cf53 : MethodName := ⟨RJ9, "floorDiv", "(II)I"⟩
abbrev cJ9_floorMod_7cf53 : ByteArray := prog_14_method_50_code
def yJ9_floorMod_7cf53 : MethodName := ⟨RJ9, "floorMod", "(II)I"⟩
abbrev cJ9_abs_0f7a4 : ByteArray := prog_14_method_59_code
def yJ9_abs_0f7a4 : MethodName := ⟨RJ9, "abs", "(I)I"⟩
abbrev cJ9_max_7cf53 : ByteArray := prog_14_method_65_code
def yJ9_max_7cf53 : MethodName := ⟨RJ9, "max", "(II)I"⟩
abbrev cJ9_min_7cf53 : ByteArray := prog_14_method_69_code
def yJ9_min_7cf53 : MethodName := ⟨RJ9, "min", "(II)I"⟩
def RJ10 : String := "java/lang/System"
def TJ10 : u_T := fun k => match k with
  | _ => ("", "", "", false)
def tyJ10 : Nat → FieldType := fun k => match k with
  | _ => .int
abbrev wsJ100 : List Cond := u_ws RJ10 TJ10 0
theorem nmJ10 : ∀ a, a < 0 → ∀ b, b < 0 → a ≠ b → (TJ10 a).2.1 ≠ (TJ10 b).2.1 := by decide +kernel
theorem tyJ10_ok : ∀ k, k < 0 → parseFieldDescriptor (TJ10 k).2.2.1 = some (tyJ10 k) := by decide +kernel
def RL : String := "HeldBladesLaw"
abbrev cL_law : ByteArray := code
def yL_law : MethodName := ⟨RL, "law", "([I)Z"⟩
abbrev vwCl : List vw_C := [(RX0, TX0, 4), (RX1, TX1, 3), (RX2, TX2, 8), (RX3, TX3, 5), (RX4, TX4, 5), (RX5, TX5, 6), (RX6, TX6, 2), (RX7, TX7, 3), (RX8, TX8, 16), (RX9, TX9, 10), (RX10, TX10, 26)]
