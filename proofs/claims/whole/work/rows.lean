section
-- ===== PART A: goes FIRST, ahead of the names: the tables' words, and 'selects' of the private methods out of them =====
/-- a private method of a class that the tables say can be made, by its rows of tables_1 -/
def lw_okq (q : MethodName × Nat) : Prop := (q.1.cls ≠ "java/lang/invoke/MethodHandle" ∧ q.1.cls ≠ "java/lang/invoke/VarHandle") ∧ Cond.instantiable q.1.cls q.2 ∈ tables_1 ∧ Cond.privateMethod q.1 ∈ tables_1 ∧ Cond.instanceMethod q.1 ∈ tables_1
theorem lw_p0 : lw_okq (⟨"HeldBlades$Settings", "startAnew", "()V"⟩, 6) := ⟨⟨by decide +kernel, by decide +kernel⟩, List.mem_of_getElem? (i := 24) (by decide +kernel), List.mem_of_getElem? (i := 30) (by decide +kernel), List.mem_of_getElem? (i := 31) (by decide +kernel)⟩
theorem lw_p1 : lw_okq (⟨"HeldBlades$Wheel", "startAnew", "()V"⟩, 16) := ⟨⟨by decide +kernel, by decide +kernel⟩, List.mem_of_getElem? (i := 108) (by decide +kernel), List.mem_of_getElem? (i := 114) (by decide +kernel), List.mem_of_getElem? (i := 115) (by decide +kernel)⟩
theorem lw_p2 : lw_okq (⟨"HeldBlades$Text", "append", "(I)V"⟩, 2) := ⟨⟨by decide +kernel, by decide +kernel⟩, List.mem_of_getElem? (i := 61) (by decide +kernel), List.mem_of_getElem? (i := 334) (by decide +kernel), List.mem_of_getElem? (i := 335) (by decide +kernel)⟩
theorem lw_p3 : lw_okq (⟨"HeldBlades$Reader", "read", "(LHeldBlades$Text;)I"⟩, 5) := ⟨⟨by decide +kernel, by decide +kernel⟩, List.mem_of_getElem? (i := 77) (by decide +kernel), List.mem_of_getElem? (i := 346) (by decide +kernel), List.mem_of_getElem? (i := 347) (by decide +kernel)⟩
theorem lw_p4 : lw_okq (⟨"HeldBlades$Text", "behindBlanks", "(I)I"⟩, 2) := ⟨⟨by decide +kernel, by decide +kernel⟩, List.mem_of_getElem? (i := 61) (by decide +kernel), List.mem_of_getElem? (i := 351) (by decide +kernel), List.mem_of_getElem? (i := 352) (by decide +kernel)⟩
theorem lw_p5 : lw_okq (⟨"HeldBlades$Text", "letterAt", "(I)I"⟩, 2) := ⟨⟨by decide +kernel, by decide +kernel⟩, List.mem_of_getElem? (i := 61) (by decide +kernel), List.mem_of_getElem? (i := 355) (by decide +kernel), List.mem_of_getElem? (i := 356) (by decide +kernel)⟩
theorem lw_p6 : lw_okq (⟨"HeldBlades$Text", "behindToken", "(I)I"⟩, 2) := ⟨⟨by decide +kernel, by decide +kernel⟩, List.mem_of_getElem? (i := 61) (by decide +kernel), List.mem_of_getElem? (i := 359) (by decide +kernel), List.mem_of_getElem? (i := 360) (by decide +kernel)⟩
theorem lw_p7 : lw_okq (⟨"HeldBlades$Text", "isFigureAt", "(I)Z"⟩, 2) := ⟨⟨by decide +kernel, by decide +kernel⟩, List.mem_of_getElem? (i := 61) (by decide +kernel), List.mem_of_getElem? (i := 363) (by decide +kernel), List.mem_of_getElem? (i := 364) (by decide +kernel)⟩
theorem lw_p8 : lw_okq (⟨"HeldBlades$Reader", "takes", "(LHeldBlades$Text;II)Z"⟩, 5) := ⟨⟨by decide +kernel, by decide +kernel⟩, List.mem_of_getElem? (i := 77) (by decide +kernel), List.mem_of_getElem? (i := 368) (by decide +kernel), List.mem_of_getElem? (i := 369) (by decide +kernel)⟩
theorem lw_p9 : lw_okq (⟨"HeldBlades$Reader", "takesLetter", "(I)Z"⟩, 5) := ⟨⟨by decide +kernel, by decide +kernel⟩, List.mem_of_getElem? (i := 77) (by decide +kernel), List.mem_of_getElem? (i := 373) (by decide +kernel), List.mem_of_getElem? (i := 374) (by decide +kernel)⟩
theorem lw_p10 : lw_okq (⟨"HeldBlades$Reader", "isTold", "(I)Z"⟩, 5) := ⟨⟨by decide +kernel, by decide +kernel⟩, List.mem_of_getElem? (i := 77) (by decide +kernel), List.mem_of_getElem? (i := 380) (by decide +kernel), List.mem_of_getElem? (i := 381) (by decide +kernel)⟩
theorem lw_p11 : lw_okq (⟨"HeldBlades$Text", "numberAt", "(II)I"⟩, 2) := ⟨⟨by decide +kernel, by decide +kernel⟩, List.mem_of_getElem? (i := 61) (by decide +kernel), List.mem_of_getElem? (i := 384) (by decide +kernel), List.mem_of_getElem? (i := 385) (by decide +kernel)⟩
theorem lw_p12 : lw_okq (⟨"HeldBlades$Reader", "takesNumber", "(I)Z"⟩, 5) := ⟨⟨by decide +kernel, by decide +kernel⟩, List.mem_of_getElem? (i := 77) (by decide +kernel), List.mem_of_getElem? (i := 388) (by decide +kernel), List.mem_of_getElem? (i := 389) (by decide +kernel)⟩
theorem lw_p13 : lw_okq (⟨"HeldBlades$Settings", "mayBe", "(II)Z"⟩, 6) := ⟨⟨by decide +kernel, by decide +kernel⟩, List.mem_of_getElem? (i := 24) (by decide +kernel), List.mem_of_getElem? (i := 392) (by decide +kernel), List.mem_of_getElem? (i := 393) (by decide +kernel)⟩
theorem lw_p14 : lw_okq (⟨"HeldBlades$Settings", "put", "(II)V"⟩, 6) := ⟨⟨by decide +kernel, by decide +kernel⟩, List.mem_of_getElem? (i := 24) (by decide +kernel), List.mem_of_getElem? (i := 397) (by decide +kernel), List.mem_of_getElem? (i := 398) (by decide +kernel)⟩
theorem lw_p15 : lw_okq (⟨"HeldBlades$Reader", "takesEnd", "(I)Z"⟩, 5) := ⟨⟨by decide +kernel, by decide +kernel⟩, List.mem_of_getElem? (i := 77) (by decide +kernel), List.mem_of_getElem? (i := 401) (by decide +kernel), List.mem_of_getElem? (i := 402) (by decide +kernel)⟩
def lw_privs_1 : List (MethodName × Nat) := [(⟨"HeldBlades$Settings", "startAnew", "()V"⟩, 6), (⟨"HeldBlades$Wheel", "startAnew", "()V"⟩, 16), (⟨"HeldBlades$Text", "append", "(I)V"⟩, 2), (⟨"HeldBlades$Reader", "read", "(LHeldBlades$Text;)I"⟩, 5), (⟨"HeldBlades$Text", "behindBlanks", "(I)I"⟩, 2), (⟨"HeldBlades$Text", "letterAt", "(I)I"⟩, 2), (⟨"HeldBlades$Text", "behindToken", "(I)I"⟩, 2), (⟨"HeldBlades$Text", "isFigureAt", "(I)Z"⟩, 2), (⟨"HeldBlades$Reader", "takes", "(LHeldBlades$Text;II)Z"⟩, 5), (⟨"HeldBlades$Reader", "takesLetter", "(I)Z"⟩, 5), (⟨"HeldBlades$Reader", "isTold", "(I)Z"⟩, 5), (⟨"HeldBlades$Text", "numberAt", "(II)I"⟩, 2), (⟨"HeldBlades$Reader", "takesNumber", "(I)Z"⟩, 5), (⟨"HeldBlades$Settings", "mayBe", "(II)Z"⟩, 6), (⟨"HeldBlades$Settings", "put", "(II)V"⟩, 6), (⟨"HeldBlades$Reader", "takesEnd", "(I)Z"⟩, 5)]
theorem lw_r1 : ∀ q ∈ lw_privs_1, lw_okq q := List.forall_mem_cons.mpr ⟨lw_p0, List.forall_mem_cons.mpr ⟨lw_p1, List.forall_mem_cons.mpr ⟨lw_p2, List.forall_mem_cons.mpr ⟨lw_p3, List.forall_mem_cons.mpr ⟨lw_p4, List.forall_mem_cons.mpr ⟨lw_p5, List.forall_mem_cons.mpr ⟨lw_p6, List.forall_mem_cons.mpr ⟨lw_p7, List.forall_mem_cons.mpr ⟨lw_p8, List.forall_mem_cons.mpr ⟨lw_p9, List.forall_mem_cons.mpr ⟨lw_p10, List.forall_mem_cons.mpr ⟨lw_p11, List.forall_mem_cons.mpr ⟨lw_p12, List.forall_mem_cons.mpr ⟨lw_p13, List.forall_mem_cons.mpr ⟨lw_p14, List.forall_mem_cons.mpr ⟨lw_p15, fun _ h => absurd h List.not_mem_nil⟩⟩⟩⟩⟩⟩⟩⟩⟩⟩⟩⟩⟩⟩⟩⟩
theorem lw_p16 : lw_okq (⟨"HeldBlades$Settings", "become", "(LHeldBlades$Settings;)V"⟩, 6) := ⟨⟨by decide +kernel, by decide +kernel⟩, List.mem_of_getElem? (i := 24) (by decide +kernel), List.mem_of_getElem? (i := 405) (by decide +kernel), List.mem_of_getElem? (i := 406) (by decide +kernel)⟩
theorem lw_p17 : lw_okq (⟨"HeldBlades$Moment", "startAnew", "()V"⟩, 4) := ⟨⟨by decide +kernel, by decide +kernel⟩, List.mem_of_getElem? (i := 102) (by decide +kernel), List.mem_of_getElem? (i := 409) (by decide +kernel), List.mem_of_getElem? (i := 410) (by decide +kernel)⟩
theorem lw_p18 : lw_okq (⟨"HeldBlades$Trace", "startAnew", "()V"⟩, 3) := ⟨⟨by decide +kernel, by decide +kernel⟩, List.mem_of_getElem? (i := 177) (by decide +kernel), List.mem_of_getElem? (i := 414) (by decide +kernel), List.mem_of_getElem? (i := 415) (by decide +kernel)⟩
theorem lw_p19 : lw_okq (⟨"HeldBlades$Past", "lose", "()V"⟩, 3) := ⟨⟨by decide +kernel, by decide +kernel⟩, List.mem_of_getElem? (i := 212) (by decide +kernel), List.mem_of_getElem? (i := 418) (by decide +kernel), List.mem_of_getElem? (i := 419) (by decide +kernel)⟩
theorem lw_p20 : lw_okq (⟨"HeldBlades", "loseImages", "()V"⟩, 10) := ⟨⟨by decide +kernel, by decide +kernel⟩, List.mem_of_getElem? (i := 16) (by decide +kernel), List.mem_of_getElem? (i := 422) (by decide +kernel), List.mem_of_getElem? (i := 423) (by decide +kernel)⟩
theorem lw_p21 : lw_okq (⟨"HeldBlades$Past", "add", "(LHeldBlades$Moment;)V"⟩, 3) := ⟨⟨by decide +kernel, by decide +kernel⟩, List.mem_of_getElem? (i := 212) (by decide +kernel), List.mem_of_getElem? (i := 430) (by decide +kernel), List.mem_of_getElem? (i := 431) (by decide +kernel)⟩
theorem lw_p22 : lw_okq (⟨"HeldBlades$Moment", "become", "(LHeldBlades$Moment;)V"⟩, 4) := ⟨⟨by decide +kernel, by decide +kernel⟩, List.mem_of_getElem? (i := 102) (by decide +kernel), List.mem_of_getElem? (i := 437) (by decide +kernel), List.mem_of_getElem? (i := 438) (by decide +kernel)⟩
theorem lw_p23 : lw_okq (⟨"HeldBlades$Wheel", "become", "(LHeldBlades$Wheel;)V"⟩, 16) := ⟨⟨by decide +kernel, by decide +kernel⟩, List.mem_of_getElem? (i := 108) (by decide +kernel), List.mem_of_getElem? (i := 441) (by decide +kernel), List.mem_of_getElem? (i := 442) (by decide +kernel)⟩
theorem lw_p24 : lw_okq (⟨"HeldBlades$Trace", "become", "(LHeldBlades$Trace;)V"⟩, 3) := ⟨⟨by decide +kernel, by decide +kernel⟩, List.mem_of_getElem? (i := 177) (by decide +kernel), List.mem_of_getElem? (i := 445) (by decide +kernel), List.mem_of_getElem? (i := 446) (by decide +kernel)⟩
theorem lw_p25 : lw_okq (⟨"HeldBlades$Moment", "tick", "(LHeldBlades$Settings;)V"⟩, 4) := ⟨⟨by decide +kernel, by decide +kernel⟩, List.mem_of_getElem? (i := 102) (by decide +kernel), List.mem_of_getElem? (i := 475) (by decide +kernel), List.mem_of_getElem? (i := 476) (by decide +kernel)⟩
theorem lw_p26 : lw_okq (⟨"HeldBlades$Wheel", "step", "(LHeldBlades$Settings;)V"⟩, 16) := ⟨⟨by decide +kernel, by decide +kernel⟩, List.mem_of_getElem? (i := 108) (by decide +kernel), List.mem_of_getElem? (i := 479) (by decide +kernel), List.mem_of_getElem? (i := 480) (by decide +kernel)⟩
theorem lw_p27 : lw_okq (⟨"HeldBlades$Wheel", "nextMode", "(LHeldBlades$Settings;)I"⟩, 16) := ⟨⟨by decide +kernel, by decide +kernel⟩, List.mem_of_getElem? (i := 108) (by decide +kernel), List.mem_of_getElem? (i := 483) (by decide +kernel), List.mem_of_getElem? (i := 484) (by decide +kernel)⟩
theorem lw_p28 : lw_okq (⟨"HeldBlades$Wheel", "isWound", "(I)Z"⟩, 16) := ⟨⟨by decide +kernel, by decide +kernel⟩, List.mem_of_getElem? (i := 108) (by decide +kernel), List.mem_of_getElem? (i := 487) (by decide +kernel), List.mem_of_getElem? (i := 488) (by decide +kernel)⟩
theorem lw_p29 : lw_okq (⟨"HeldBlades$Wheel", "pitchAim", "(LHeldBlades$Settings;)I"⟩, 16) := ⟨⟨by decide +kernel, by decide +kernel⟩, List.mem_of_getElem? (i := 108) (by decide +kernel), List.mem_of_getElem? (i := 491) (by decide +kernel), List.mem_of_getElem? (i := 492) (by decide +kernel)⟩
theorem lw_p30 : lw_okq (⟨"HeldBlades$Wheel", "torqueAim", "(LHeldBlades$Settings;)I"⟩, 16) := ⟨⟨by decide +kernel, by decide +kernel⟩, List.mem_of_getElem? (i := 108) (by decide +kernel), List.mem_of_getElem? (i := 502) (by decide +kernel), List.mem_of_getElem? (i := 503) (by decide +kernel)⟩
theorem lw_p31 : lw_okq (⟨"HeldBlades$Wheel", "error", "()I"⟩, 16) := ⟨⟨by decide +kernel, by decide +kernel⟩, List.mem_of_getElem? (i := 108) (by decide +kernel), List.mem_of_getElem? (i := 506) (by decide +kernel), List.mem_of_getElem? (i := 507) (by decide +kernel)⟩
def lw_privs_2 : List (MethodName × Nat) := [(⟨"HeldBlades$Settings", "become", "(LHeldBlades$Settings;)V"⟩, 6), (⟨"HeldBlades$Moment", "startAnew", "()V"⟩, 4), (⟨"HeldBlades$Trace", "startAnew", "()V"⟩, 3), (⟨"HeldBlades$Past", "lose", "()V"⟩, 3), (⟨"HeldBlades", "loseImages", "()V"⟩, 10), (⟨"HeldBlades$Past", "add", "(LHeldBlades$Moment;)V"⟩, 3), (⟨"HeldBlades$Moment", "become", "(LHeldBlades$Moment;)V"⟩, 4), (⟨"HeldBlades$Wheel", "become", "(LHeldBlades$Wheel;)V"⟩, 16), (⟨"HeldBlades$Trace", "become", "(LHeldBlades$Trace;)V"⟩, 3), (⟨"HeldBlades$Moment", "tick", "(LHeldBlades$Settings;)V"⟩, 4), (⟨"HeldBlades$Wheel", "step", "(LHeldBlades$Settings;)V"⟩, 16), (⟨"HeldBlades$Wheel", "nextMode", "(LHeldBlades$Settings;)I"⟩, 16), (⟨"HeldBlades$Wheel", "isWound", "(I)Z"⟩, 16), (⟨"HeldBlades$Wheel", "pitchAim", "(LHeldBlades$Settings;)I"⟩, 16), (⟨"HeldBlades$Wheel", "torqueAim", "(LHeldBlades$Settings;)I"⟩, 16), (⟨"HeldBlades$Wheel", "error", "()I"⟩, 16)]
theorem lw_r2 : ∀ q ∈ lw_privs_2, lw_okq q := List.forall_mem_cons.mpr ⟨lw_p16, List.forall_mem_cons.mpr ⟨lw_p17, List.forall_mem_cons.mpr ⟨lw_p18, List.forall_mem_cons.mpr ⟨lw_p19, List.forall_mem_cons.mpr ⟨lw_p20, List.forall_mem_cons.mpr ⟨lw_p21, List.forall_mem_cons.mpr ⟨lw_p22, List.forall_mem_cons.mpr ⟨lw_p23, List.forall_mem_cons.mpr ⟨lw_p24, List.forall_mem_cons.mpr ⟨lw_p25, List.forall_mem_cons.mpr ⟨lw_p26, List.forall_mem_cons.mpr ⟨lw_p27, List.forall_mem_cons.mpr ⟨lw_p28, List.forall_mem_cons.mpr ⟨lw_p29, List.forall_mem_cons.mpr ⟨lw_p30, List.forall_mem_cons.mpr ⟨lw_p31, fun _ h => absurd h List.not_mem_nil⟩⟩⟩⟩⟩⟩⟩⟩⟩⟩⟩⟩⟩⟩⟩⟩
theorem lw_p32 : lw_okq (⟨"HeldBlades$Wheel", "ahead", "()I"⟩, 16) := ⟨⟨by decide +kernel, by decide +kernel⟩, List.mem_of_getElem? (i := 108) (by decide +kernel), List.mem_of_getElem? (i := 510) (by decide +kernel), List.mem_of_getElem? (i := 511) (by decide +kernel)⟩
theorem lw_p33 : lw_okq (⟨"HeldBlades$Wheel", "drive", "(I)I"⟩, 16) := ⟨⟨by decide +kernel, by decide +kernel⟩, List.mem_of_getElem? (i := 108) (by decide +kernel), List.mem_of_getElem? (i := 514) (by decide +kernel), List.mem_of_getElem? (i := 515) (by decide +kernel)⟩
theorem lw_p34 : lw_okq (⟨"HeldBlades$Wheel", "drag", "()I"⟩, 16) := ⟨⟨by decide +kernel, by decide +kernel⟩, List.mem_of_getElem? (i := 108) (by decide +kernel), List.mem_of_getElem? (i := 518) (by decide +kernel), List.mem_of_getElem? (i := 519) (by decide +kernel)⟩
theorem lw_p35 : lw_okq (⟨"HeldBlades$Wheel", "turn", "(I)V"⟩, 16) := ⟨⟨by decide +kernel, by decide +kernel⟩, List.mem_of_getElem? (i := 108) (by decide +kernel), List.mem_of_getElem? (i := 525) (by decide +kernel), List.mem_of_getElem? (i := 526) (by decide +kernel)⟩
theorem lw_p36 : lw_okq (⟨"HeldBlades$Wheel", "turnBy", "(I)V"⟩, 16) := ⟨⟨by decide +kernel, by decide +kernel⟩, List.mem_of_getElem? (i := 108) (by decide +kernel), List.mem_of_getElem? (i := 529) (by decide +kernel), List.mem_of_getElem? (i := 530) (by decide +kernel)⟩
theorem lw_p37 : lw_okq (⟨"HeldBlades$Trace", "add", "(I)V"⟩, 3) := ⟨⟨by decide +kernel, by decide +kernel⟩, List.mem_of_getElem? (i := 177) (by decide +kernel), List.mem_of_getElem? (i := 533) (by decide +kernel), List.mem_of_getElem? (i := 534) (by decide +kernel)⟩
theorem lw_p38 : lw_okq (⟨"HeldBlades$Past", "takeLatest", "(LHeldBlades$Moment;)V"⟩, 3) := ⟨⟨by decide +kernel, by decide +kernel⟩, List.mem_of_getElem? (i := 212) (by decide +kernel), List.mem_of_getElem? (i := 542) (by decide +kernel), List.mem_of_getElem? (i := 543) (by decide +kernel)⟩
theorem lw_p39 : lw_okq (⟨"HeldBlades$Wheel", "tell", "(I)I"⟩, 16) := ⟨⟨by decide +kernel, by decide +kernel⟩, List.mem_of_getElem? (i := 108) (by decide +kernel), List.mem_of_getElem? (i := 550) (by decide +kernel), List.mem_of_getElem? (i := 551) (by decide +kernel)⟩
theorem lw_p40 : lw_okq (⟨"HeldBlades$Settings", "tell", "(I)I"⟩, 6) := ⟨⟨by decide +kernel, by decide +kernel⟩, List.mem_of_getElem? (i := 24) (by decide +kernel), List.mem_of_getElem? (i := 559) (by decide +kernel), List.mem_of_getElem? (i := 560) (by decide +kernel)⟩
theorem lw_p41 : lw_okq (⟨"HeldBlades$Trace", "speedAgo", "(I)I"⟩, 3) := ⟨⟨by decide +kernel, by decide +kernel⟩, List.mem_of_getElem? (i := 177) (by decide +kernel), List.mem_of_getElem? (i := 567) (by decide +kernel), List.mem_of_getElem? (i := 568) (by decide +kernel)⟩
theorem lw_p42 : lw_okq (⟨"HeldBlades", "bearsGust", "(II)Z"⟩, 10) := ⟨⟨by decide +kernel, by decide +kernel⟩, List.mem_of_getElem? (i := 16) (by decide +kernel), List.mem_of_getElem? (i := 576) (by decide +kernel), List.mem_of_getElem? (i := 577) (by decide +kernel)⟩
theorem lw_p43 : lw_okq (⟨"HeldBlades", "ridesDip", "(I)Z"⟩, 10) := ⟨⟨by decide +kernel, by decide +kernel⟩, List.mem_of_getElem? (i := 16) (by decide +kernel), List.mem_of_getElem? (i := 586) (by decide +kernel), List.mem_of_getElem? (i := 587) (by decide +kernel)⟩
theorem lw_p44 : lw_okq (⟨"HeldBlades$Rain", "pour", "(LHeldBlades$Trace;)V"⟩, 8) := ⟨⟨by decide +kernel, by decide +kernel⟩, List.mem_of_getElem? (i := 260) (by decide +kernel), List.mem_of_getElem? (i := 594) (by decide +kernel), List.mem_of_getElem? (i := 595) (by decide +kernel)⟩
theorem lw_p45 : lw_okq (⟨"HeldBlades$Rain", "findTurn", "(I)V"⟩, 8) := ⟨⟨by decide +kernel, by decide +kernel⟩, List.mem_of_getElem? (i := 260) (by decide +kernel), List.mem_of_getElem? (i := 599) (by decide +kernel), List.mem_of_getElem? (i := 600) (by decide +kernel)⟩
theorem lw_p46 : lw_okq (⟨"HeldBlades$Rain", "addToRow", "(I)V"⟩, 8) := ⟨⟨by decide +kernel, by decide +kernel⟩, List.mem_of_getElem? (i := 260) (by decide +kernel), List.mem_of_getElem? (i := 603) (by decide +kernel), List.mem_of_getElem? (i := 604) (by decide +kernel)⟩
theorem lw_p47 : lw_okq (⟨"HeldBlades$Rain", "isCycleInside", "()Z"⟩, 8) := ⟨⟨by decide +kernel, by decide +kernel⟩, List.mem_of_getElem? (i := 260) (by decide +kernel), List.mem_of_getElem? (i := 607) (by decide +kernel), List.mem_of_getElem? (i := 608) (by decide +kernel)⟩
def lw_privs_3 : List (MethodName × Nat) := [(⟨"HeldBlades$Wheel", "ahead", "()I"⟩, 16), (⟨"HeldBlades$Wheel", "drive", "(I)I"⟩, 16), (⟨"HeldBlades$Wheel", "drag", "()I"⟩, 16), (⟨"HeldBlades$Wheel", "turn", "(I)V"⟩, 16), (⟨"HeldBlades$Wheel", "turnBy", "(I)V"⟩, 16), (⟨"HeldBlades$Trace", "add", "(I)V"⟩, 3), (⟨"HeldBlades$Past", "takeLatest", "(LHeldBlades$Moment;)V"⟩, 3), (⟨"HeldBlades$Wheel", "tell", "(I)I"⟩, 16), (⟨"HeldBlades$Settings", "tell", "(I)I"⟩, 6), (⟨"HeldBlades$Trace", "speedAgo", "(I)I"⟩, 3), (⟨"HeldBlades", "bearsGust", "(II)Z"⟩, 10), (⟨"HeldBlades", "ridesDip", "(I)Z"⟩, 10), (⟨"HeldBlades$Rain", "pour", "(LHeldBlades$Trace;)V"⟩, 8), (⟨"HeldBlades$Rain", "findTurn", "(I)V"⟩, 8), (⟨"HeldBlades$Rain", "addToRow", "(I)V"⟩, 8), (⟨"HeldBlades$Rain", "isCycleInside", "()Z"⟩, 8)]
theorem lw_r3 : ∀ q ∈ lw_privs_3, lw_okq q := List.forall_mem_cons.mpr ⟨lw_p32, List.forall_mem_cons.mpr ⟨lw_p33, List.forall_mem_cons.mpr ⟨lw_p34, List.forall_mem_cons.mpr ⟨lw_p35, List.forall_mem_cons.mpr ⟨lw_p36, List.forall_mem_cons.mpr ⟨lw_p37, List.forall_mem_cons.mpr ⟨lw_p38, List.forall_mem_cons.mpr ⟨lw_p39, List.forall_mem_cons.mpr ⟨lw_p40, List.forall_mem_cons.mpr ⟨lw_p41, List.forall_mem_cons.mpr ⟨lw_p42, List.forall_mem_cons.mpr ⟨lw_p43, List.forall_mem_cons.mpr ⟨lw_p44, List.forall_mem_cons.mpr ⟨lw_p45, List.forall_mem_cons.mpr ⟨lw_p46, List.forall_mem_cons.mpr ⟨lw_p47, fun _ h => absurd h List.not_mem_nil⟩⟩⟩⟩⟩⟩⟩⟩⟩⟩⟩⟩⟩⟩⟩⟩
theorem lw_p48 : lw_okq (⟨"HeldBlades$Rain", "addHalves", "(II)V"⟩, 8) := ⟨⟨by decide +kernel, by decide +kernel⟩, List.mem_of_getElem? (i := 260) (by decide +kernel), List.mem_of_getElem? (i := 614) (by decide +kernel), List.mem_of_getElem? (i := 615) (by decide +kernel)⟩
theorem lw_p49 : lw_okq (⟨"HeldBlades$Rain", "placeOf", "(I)I"⟩, 8) := ⟨⟨by decide +kernel, by decide +kernel⟩, List.mem_of_getElem? (i := 260) (by decide +kernel), List.mem_of_getElem? (i := 618) (by decide +kernel), List.mem_of_getElem? (i := 619) (by decide +kernel)⟩
theorem lw_p50 : lw_okq (⟨"HeldBlades$Rain", "halvesOf", "(I)I"⟩, 8) := ⟨⟨by decide +kernel, by decide +kernel⟩, List.mem_of_getElem? (i := 260) (by decide +kernel), List.mem_of_getElem? (i := 622) (by decide +kernel), List.mem_of_getElem? (i := 623) (by decide +kernel)⟩
theorem lw_p51 : lw_okq (⟨"HeldBlades$Rain", "greatestDifference", "()I"⟩, 8) := ⟨⟨by decide +kernel, by decide +kernel⟩, List.mem_of_getElem? (i := 260) (by decide +kernel), List.mem_of_getElem? (i := 630) (by decide +kernel), List.mem_of_getElem? (i := 631) (by decide +kernel)⟩
theorem lw_p52 : lw_okq (⟨"HeldBlades$Rain", "allHalves", "()I"⟩, 8) := ⟨⟨by decide +kernel, by decide +kernel⟩, List.mem_of_getElem? (i := 260) (by decide +kernel), List.mem_of_getElem? (i := 635) (by decide +kernel), List.mem_of_getElem? (i := 636) (by decide +kernel)⟩
theorem lw_p53 : lw_okq (⟨"HeldBlades$Seen", "add", "(III)V"⟩, 5) := ⟨⟨by decide +kernel, by decide +kernel⟩, List.mem_of_getElem? (i := 232) (by decide +kernel), List.mem_of_getElem? (i := 643) (by decide +kernel), List.mem_of_getElem? (i := 644) (by decide +kernel)⟩
theorem lw_p54 : lw_okq (⟨"HeldBlades", "possibleIce", "()I"⟩, 10) := ⟨⟨by decide +kernel, by decide +kernel⟩, List.mem_of_getElem? (i := 16) (by decide +kernel), List.mem_of_getElem? (i := 655) (by decide +kernel), List.mem_of_getElem? (i := 656) (by decide +kernel)⟩
theorem lw_p55 : lw_okq (⟨"HeldBlades", "agreesWithSeen", "(I)Z"⟩, 10) := ⟨⟨by decide +kernel, by decide +kernel⟩, List.mem_of_getElem? (i := 16) (by decide +kernel), List.mem_of_getElem? (i := 659) (by decide +kernel), List.mem_of_getElem? (i := 660) (by decide +kernel)⟩
theorem lw_p56 : lw_okq (⟨"HeldBlades", "speedAfter", "(III)I"⟩, 10) := ⟨⟨by decide +kernel, by decide +kernel⟩, List.mem_of_getElem? (i := 16) (by decide +kernel), List.mem_of_getElem? (i := 663) (by decide +kernel), List.mem_of_getElem? (i := 664) (by decide +kernel)⟩
theorem lw_p57 : lw_okq (⟨"HeldBlades", "mostAlike", "(II)I"⟩, 10) := ⟨⟨by decide +kernel, by decide +kernel⟩, List.mem_of_getElem? (i := 16) (by decide +kernel), List.mem_of_getElem? (i := 677) (by decide +kernel), List.mem_of_getElem? (i := 678) (by decide +kernel)⟩
theorem lw_p58 : lw_okq (⟨"HeldBlades", "alikeUpTo", "(II)I"⟩, 10) := ⟨⟨by decide +kernel, by decide +kernel⟩, List.mem_of_getElem? (i := 16) (by decide +kernel), List.mem_of_getElem? (i := 681) (by decide +kernel), List.mem_of_getElem? (i := 682) (by decide +kernel)⟩
theorem lw_p59 : lw_okq (⟨"HeldBladesModel", "plain", "()V"⟩, 26) := ⟨⟨by decide +kernel, by decide +kernel⟩, List.mem_of_getElem? (i := 699) (by decide +kernel), List.mem_of_getElem? (i := 705) (by decide +kernel), List.mem_of_getElem? (i := 706) (by decide +kernel)⟩
theorem lw_p60 : lw_okq (⟨"HeldBladesModel", "takesOver", "()V"⟩, 26) := ⟨⟨by decide +kernel, by decide +kernel⟩, List.mem_of_getElem? (i := 699) (by decide +kernel), List.mem_of_getElem? (i := 709) (by decide +kernel), List.mem_of_getElem? (i := 710) (by decide +kernel)⟩
theorem lw_p61 : lw_okq (⟨"HeldBladesModel", "next", "()V"⟩, 26) := ⟨⟨by decide +kernel, by decide +kernel⟩, List.mem_of_getElem? (i := 699) (by decide +kernel), List.mem_of_getElem? (i := 807) (by decide +kernel), List.mem_of_getElem? (i := 808) (by decide +kernel)⟩
theorem lw_p62 : lw_okq (⟨"HeldBladesModel", "isFigure", "()Z"⟩, 26) := ⟨⟨by decide +kernel, by decide +kernel⟩, List.mem_of_getElem? (i := 699) (by decide +kernel), List.mem_of_getElem? (i := 811) (by decide +kernel), List.mem_of_getElem? (i := 812) (by decide +kernel)⟩
theorem lw_p63 : lw_okq (⟨"HeldBladesModel", "readsItem", "()V"⟩, 26) := ⟨⟨by decide +kernel, by decide +kernel⟩, List.mem_of_getElem? (i := 699) (by decide +kernel), List.mem_of_getElem? (i := 818) (by decide +kernel), List.mem_of_getElem? (i := 819) (by decide +kernel)⟩
def lw_privs_4 : List (MethodName × Nat) := [(⟨"HeldBlades$Rain", "addHalves", "(II)V"⟩, 8), (⟨"HeldBlades$Rain", "placeOf", "(I)I"⟩, 8), (⟨"HeldBlades$Rain", "halvesOf", "(I)I"⟩, 8), (⟨"HeldBlades$Rain", "greatestDifference", "()I"⟩, 8), (⟨"HeldBlades$Rain", "allHalves", "()I"⟩, 8), (⟨"HeldBlades$Seen", "add", "(III)V"⟩, 5), (⟨"HeldBlades", "possibleIce", "()I"⟩, 10), (⟨"HeldBlades", "agreesWithSeen", "(I)Z"⟩, 10), (⟨"HeldBlades", "speedAfter", "(III)I"⟩, 10), (⟨"HeldBlades", "mostAlike", "(II)I"⟩, 10), (⟨"HeldBlades", "alikeUpTo", "(II)I"⟩, 10), (⟨"HeldBladesModel", "plain", "()V"⟩, 26), (⟨"HeldBladesModel", "takesOver", "()V"⟩, 26), (⟨"HeldBladesModel", "next", "()V"⟩, 26), (⟨"HeldBladesModel", "isFigure", "()Z"⟩, 26), (⟨"HeldBladesModel", "readsItem", "()V"⟩, 26)]
theorem lw_r4 : ∀ q ∈ lw_privs_4, lw_okq q := List.forall_mem_cons.mpr ⟨lw_p48, List.forall_mem_cons.mpr ⟨lw_p49, List.forall_mem_cons.mpr ⟨lw_p50, List.forall_mem_cons.mpr ⟨lw_p51, List.forall_mem_cons.mpr ⟨lw_p52, List.forall_mem_cons.mpr ⟨lw_p53, List.forall_mem_cons.mpr ⟨lw_p54, List.forall_mem_cons.mpr ⟨lw_p55, List.forall_mem_cons.mpr ⟨lw_p56, List.forall_mem_cons.mpr ⟨lw_p57, List.forall_mem_cons.mpr ⟨lw_p58, List.forall_mem_cons.mpr ⟨lw_p59, List.forall_mem_cons.mpr ⟨lw_p60, List.forall_mem_cons.mpr ⟨lw_p61, List.forall_mem_cons.mpr ⟨lw_p62, List.forall_mem_cons.mpr ⟨lw_p63, fun _ h => absurd h List.not_mem_nil⟩⟩⟩⟩⟩⟩⟩⟩⟩⟩⟩⟩⟩⟩⟩⟩
theorem lw_p64 : lw_okq (⟨"HeldBladesModel", "isToldAlready", "(I)Z"⟩, 26) := ⟨⟨by decide +kernel, by decide +kernel⟩, List.mem_of_getElem? (i := 699) (by decide +kernel), List.mem_of_getElem? (i := 822) (by decide +kernel), List.mem_of_getElem? (i := 823) (by decide +kernel)⟩
theorem lw_p65 : lw_okq (⟨"HeldBladesModel", "must", "(Z)V"⟩, 26) := ⟨⟨by decide +kernel, by decide +kernel⟩, List.mem_of_getElem? (i := 699) (by decide +kernel), List.mem_of_getElem? (i := 826) (by decide +kernel), List.mem_of_getElem? (i := 827) (by decide +kernel)⟩
theorem lw_p66 : lw_okq (⟨"HeldBladesModel", "leastOf", "(I)I"⟩, 26) := ⟨⟨by decide +kernel, by decide +kernel⟩, List.mem_of_getElem? (i := 699) (by decide +kernel), List.mem_of_getElem? (i := 830) (by decide +kernel), List.mem_of_getElem? (i := 831) (by decide +kernel)⟩
theorem lw_p67 : lw_okq (⟨"HeldBladesModel", "notes", "()V"⟩, 26) := ⟨⟨by decide +kernel, by decide +kernel⟩, List.mem_of_getElem? (i := 699) (by decide +kernel), List.mem_of_getElem? (i := 841) (by decide +kernel), List.mem_of_getElem? (i := 842) (by decide +kernel)⟩
theorem lw_p68 : lw_okq (⟨"HeldBladesModel", "becomes", "(II)I"⟩, 26) := ⟨⟨by decide +kernel, by decide +kernel⟩, List.mem_of_getElem? (i := 699) (by decide +kernel), List.mem_of_getElem? (i := 853) (by decide +kernel), List.mem_of_getElem? (i := 854) (by decide +kernel)⟩
theorem lw_p69 : lw_okq (⟨"HeldBladesModel", "goesOn", "([I)V"⟩, 26) := ⟨⟨by decide +kernel, by decide +kernel⟩, List.mem_of_getElem? (i := 699) (by decide +kernel), List.mem_of_getElem? (i := 869) (by decide +kernel), List.mem_of_getElem? (i := 870) (by decide +kernel)⟩
theorem lw_p70 : lw_okq (⟨"HeldBladesModel", "counts", "([I)V"⟩, 26) := ⟨⟨by decide +kernel, by decide +kernel⟩, List.mem_of_getElem? (i := 699) (by decide +kernel), List.mem_of_getElem? (i := 873) (by decide +kernel), List.mem_of_getElem? (i := 874) (by decide +kernel)⟩
theorem lw_p71 : lw_okq (⟨"HeldBladesModel", "modeOf", "([I)I"⟩, 26) := ⟨⟨by decide +kernel, by decide +kernel⟩, List.mem_of_getElem? (i := 699) (by decide +kernel), List.mem_of_getElem? (i := 877) (by decide +kernel), List.mem_of_getElem? (i := 878) (by decide +kernel)⟩
theorem lw_p72 : lw_okq (⟨"HeldBladesModel", "isWound", "([I)Z"⟩, 26) := ⟨⟨by decide +kernel, by decide +kernel⟩, List.mem_of_getElem? (i := 699) (by decide +kernel), List.mem_of_getElem? (i := 881) (by decide +kernel), List.mem_of_getElem? (i := 882) (by decide +kernel)⟩
theorem lw_p73 : lw_okq (⟨"HeldBladesModel", "errorOf", "([I)I"⟩, 26) := ⟨⟨by decide +kernel, by decide +kernel⟩, List.mem_of_getElem? (i := 699) (by decide +kernel), List.mem_of_getElem? (i := 888) (by decide +kernel), List.mem_of_getElem? (i := 889) (by decide +kernel)⟩
theorem lw_p74 : lw_okq (⟨"HeldBladesModel", "holds", "([I)V"⟩, 26) := ⟨⟨by decide +kernel, by decide +kernel⟩, List.mem_of_getElem? (i := 699) (by decide +kernel), List.mem_of_getElem? (i := 892) (by decide +kernel), List.mem_of_getElem? (i := 893) (by decide +kernel)⟩
theorem lw_p75 : lw_okq (⟨"HeldBladesModel", "pitchGoal", "([I)I"⟩, 26) := ⟨⟨by decide +kernel, by decide +kernel⟩, List.mem_of_getElem? (i := 699) (by decide +kernel), List.mem_of_getElem? (i := 896) (by decide +kernel), List.mem_of_getElem? (i := 897) (by decide +kernel)⟩
theorem lw_p76 : lw_okq (⟨"HeldBladesModel", "driveOf", "([I)I"⟩, 26) := ⟨⟨by decide +kernel, by decide +kernel⟩, List.mem_of_getElem? (i := 699) (by decide +kernel), List.mem_of_getElem? (i := 903) (by decide +kernel), List.mem_of_getElem? (i := 904) (by decide +kernel)⟩
theorem lw_p77 : lw_okq (⟨"HeldBladesModel", "looksUp", "([II)V"⟩, 26) := ⟨⟨by decide +kernel, by decide +kernel⟩, List.mem_of_getElem? (i := 699) (by decide +kernel), List.mem_of_getElem? (i := 907) (by decide +kernel), List.mem_of_getElem? (i := 908) (by decide +kernel)⟩
theorem lw_p78 : lw_okq (⟨"HeldBladesModel", "turns", "([II)V"⟩, 26) := ⟨⟨by decide +kernel, by decide +kernel⟩, List.mem_of_getElem? (i := 699) (by decide +kernel), List.mem_of_getElem? (i := 911) (by decide +kernel), List.mem_of_getElem? (i := 912) (by decide +kernel)⟩
theorem lw_p79 : lw_okq (⟨"HeldBladesModel", "notesSpeed", "()V"⟩, 26) := ⟨⟨by decide +kernel, by decide +kernel⟩, List.mem_of_getElem? (i := 699) (by decide +kernel), List.mem_of_getElem? (i := 915) (by decide +kernel), List.mem_of_getElem? (i := 916) (by decide +kernel)⟩
def lw_privs_5 : List (MethodName × Nat) := [(⟨"HeldBladesModel", "isToldAlready", "(I)Z"⟩, 26), (⟨"HeldBladesModel", "must", "(Z)V"⟩, 26), (⟨"HeldBladesModel", "leastOf", "(I)I"⟩, 26), (⟨"HeldBladesModel", "notes", "()V"⟩, 26), (⟨"HeldBladesModel", "becomes", "(II)I"⟩, 26), (⟨"HeldBladesModel", "goesOn", "([I)V"⟩, 26), (⟨"HeldBladesModel", "counts", "([I)V"⟩, 26), (⟨"HeldBladesModel", "modeOf", "([I)I"⟩, 26), (⟨"HeldBladesModel", "isWound", "([I)Z"⟩, 26), (⟨"HeldBladesModel", "errorOf", "([I)I"⟩, 26), (⟨"HeldBladesModel", "holds", "([I)V"⟩, 26), (⟨"HeldBladesModel", "pitchGoal", "([I)I"⟩, 26), (⟨"HeldBladesModel", "driveOf", "([I)I"⟩, 26), (⟨"HeldBladesModel", "looksUp", "([II)V"⟩, 26), (⟨"HeldBladesModel", "turns", "([II)V"⟩, 26), (⟨"HeldBladesModel", "notesSpeed", "()V"⟩, 26)]
theorem lw_r5 : ∀ q ∈ lw_privs_5, lw_okq q := List.forall_mem_cons.mpr ⟨lw_p64, List.forall_mem_cons.mpr ⟨lw_p65, List.forall_mem_cons.mpr ⟨lw_p66, List.forall_mem_cons.mpr ⟨lw_p67, List.forall_mem_cons.mpr ⟨lw_p68, List.forall_mem_cons.mpr ⟨lw_p69, List.forall_mem_cons.mpr ⟨lw_p70, List.forall_mem_cons.mpr ⟨lw_p71, List.forall_mem_cons.mpr ⟨lw_p72, List.forall_mem_cons.mpr ⟨lw_p73, List.forall_mem_cons.mpr ⟨lw_p74, List.forall_mem_cons.mpr ⟨lw_p75, List.forall_mem_cons.mpr ⟨lw_p76, List.forall_mem_cons.mpr ⟨lw_p77, List.forall_mem_cons.mpr ⟨lw_p78, List.forall_mem_cons.mpr ⟨lw_p79, fun _ h => absurd h List.not_mem_nil⟩⟩⟩⟩⟩⟩⟩⟩⟩⟩⟩⟩⟩⟩⟩⟩
theorem lw_p80 : lw_okq (⟨"HeldBladesModel", "bears", "(II)Z"⟩, 26) := ⟨⟨by decide +kernel, by decide +kernel⟩, List.mem_of_getElem? (i := 699) (by decide +kernel), List.mem_of_getElem? (i := 940) (by decide +kernel), List.mem_of_getElem? (i := 941) (by decide +kernel)⟩
theorem lw_p81 : lw_okq (⟨"HeldBladesModel", "tries", "()V"⟩, 26) := ⟨⟨by decide +kernel, by decide +kernel⟩, List.mem_of_getElem? (i := 699) (by decide +kernel), List.mem_of_getElem? (i := 944) (by decide +kernel), List.mem_of_getElem? (i := 945) (by decide +kernel)⟩
theorem lw_p82 : lw_okq (⟨"HeldBladesModel", "rides", "(I)Z"⟩, 26) := ⟨⟨by decide +kernel, by decide +kernel⟩, List.mem_of_getElem? (i := 699) (by decide +kernel), List.mem_of_getElem? (i := 952) (by decide +kernel), List.mem_of_getElem? (i := 953) (by decide +kernel)⟩
theorem lw_p83 : lw_okq (⟨"HeldBladesModel", "halvesOf", "(I)I"⟩, 26) := ⟨⟨by decide +kernel, by decide +kernel⟩, List.mem_of_getElem? (i := 699) (by decide +kernel), List.mem_of_getElem? (i := 960) (by decide +kernel), List.mem_of_getElem? (i := 961) (by decide +kernel)⟩
theorem lw_p84 : lw_okq (⟨"HeldBladesModel", "rains", "()V"⟩, 26) := ⟨⟨by decide +kernel, by decide +kernel⟩, List.mem_of_getElem? (i := 699) (by decide +kernel), List.mem_of_getElem? (i := 964) (by decide +kernel), List.mem_of_getElem? (i := 965) (by decide +kernel)⟩
theorem lw_p85 : lw_okq (⟨"HeldBladesModel", "findsTurns", "()V"⟩, 26) := ⟨⟨by decide +kernel, by decide +kernel⟩, List.mem_of_getElem? (i := 699) (by decide +kernel), List.mem_of_getElem? (i := 968) (by decide +kernel), List.mem_of_getElem? (i := 969) (by decide +kernel)⟩
theorem lw_p86 : lw_okq (⟨"HeldBladesModel", "unlikeOnes", "()I"⟩, 26) := ⟨⟨by decide +kernel, by decide +kernel⟩, List.mem_of_getElem? (i := 699) (by decide +kernel), List.mem_of_getElem? (i := 972) (by decide +kernel), List.mem_of_getElem? (i := 973) (by decide +kernel)⟩
theorem lw_p87 : lw_okq (⟨"HeldBladesModel", "closes", "()Z"⟩, 26) := ⟨⟨by decide +kernel, by decide +kernel⟩, List.mem_of_getElem? (i := 699) (by decide +kernel), List.mem_of_getElem? (i := 976) (by decide +kernel), List.mem_of_getElem? (i := 977) (by decide +kernel)⟩
theorem lw_p88 : lw_okq (⟨"HeldBladesModel", "isSo", "(I)Z"⟩, 26) := ⟨⟨by decide +kernel, by decide +kernel⟩, List.mem_of_getElem? (i := 699) (by decide +kernel), List.mem_of_getElem? (i := 996) (by decide +kernel), List.mem_of_getElem? (i := 997) (by decide +kernel)⟩
theorem lw_p89 : lw_okq (⟨"HeldBladesModel", "speedBy", "(III)I"⟩, 26) := ⟨⟨by decide +kernel, by decide +kernel⟩, List.mem_of_getElem? (i := 699) (by decide +kernel), List.mem_of_getElem? (i := 1000) (by decide +kernel), List.mem_of_getElem? (i := 1001) (by decide +kernel)⟩
theorem lw_p90 : lw_okq (⟨"HeldBladesModel", "mostAlike", "(II)I"⟩, 26) := ⟨⟨by decide +kernel, by decide +kernel⟩, List.mem_of_getElem? (i := 699) (by decide +kernel), List.mem_of_getElem? (i := 1009) (by decide +kernel), List.mem_of_getElem? (i := 1010) (by decide +kernel)⟩
def lw_privs_6 : List (MethodName × Nat) := [(⟨"HeldBladesModel", "bears", "(II)Z"⟩, 26), (⟨"HeldBladesModel", "tries", "()V"⟩, 26), (⟨"HeldBladesModel", "rides", "(I)Z"⟩, 26), (⟨"HeldBladesModel", "halvesOf", "(I)I"⟩, 26), (⟨"HeldBladesModel", "rains", "()V"⟩, 26), (⟨"HeldBladesModel", "findsTurns", "()V"⟩, 26), (⟨"HeldBladesModel", "unlikeOnes", "()I"⟩, 26), (⟨"HeldBladesModel", "closes", "()Z"⟩, 26), (⟨"HeldBladesModel", "isSo", "(I)Z"⟩, 26), (⟨"HeldBladesModel", "speedBy", "(III)I"⟩, 26), (⟨"HeldBladesModel", "mostAlike", "(II)I"⟩, 26)]
theorem lw_r6 : ∀ q ∈ lw_privs_6, lw_okq q := List.forall_mem_cons.mpr ⟨lw_p80, List.forall_mem_cons.mpr ⟨lw_p81, List.forall_mem_cons.mpr ⟨lw_p82, List.forall_mem_cons.mpr ⟨lw_p83, List.forall_mem_cons.mpr ⟨lw_p84, List.forall_mem_cons.mpr ⟨lw_p85, List.forall_mem_cons.mpr ⟨lw_p86, List.forall_mem_cons.mpr ⟨lw_p87, List.forall_mem_cons.mpr ⟨lw_p88, List.forall_mem_cons.mpr ⟨lw_p89, List.forall_mem_cons.mpr ⟨lw_p90, fun _ h => absurd h List.not_mem_nil⟩⟩⟩⟩⟩⟩⟩⟩⟩⟩⟩
def lw_privs : List (MethodName × Nat) := lw_privs_1 ++ (lw_privs_2 ++ (lw_privs_3 ++ (lw_privs_4 ++ (lw_privs_5 ++ (lw_privs_6)))))
def lw_tbl : List Cond := k2_sels lw_privs ++ tables_1
theorem lw_privs_ok : ∀ q ∈ lw_privs, lw_okq q := by
  show ∀ q ∈ lw_privs_1 ++ (lw_privs_2 ++ (lw_privs_3 ++ (lw_privs_4 ++ (lw_privs_5 ++ (lw_privs_6))))), lw_okq q
  exact List.forall_mem_append.mpr ⟨lw_r1, List.forall_mem_append.mpr ⟨lw_r2, List.forall_mem_append.mpr ⟨lw_r3, List.forall_mem_append.mpr ⟨lw_r4, List.forall_mem_append.mpr ⟨lw_r5, lw_r6⟩⟩⟩⟩⟩
def RX0 : String := "HeldBlades$Moment"
def TX0 : u_T := fun k => match k with
  | 0 => ("HeldBlades$Moment", "wheel", "LHeldBlades$Wheel;", true)
  | 1 => ("HeldBlades$Moment", "trace", "LHeldBlades$Trace;", true)
  | 2 => ("HeldBlades$Moment", "ticksEver", "I", false)
  | _ => ("HeldBlades$Moment", "trips", "I", false)
def tyX0 : Nat → FieldType := fun k => match k with
  | 0 => .object "HeldBlades$Wheel"
  | 1 => .object "HeldBlades$Trace"
  | 2 => .int
  | _ => .int
abbrev wsX00 : List Cond := u_ws RX0 TX0 4
theorem nmX0 : ∀ a, a < 4 → ∀ b, b < 4 → a ≠ b → (TX0 a).2.1 ≠ (TX0 b).2.1 := by decide +kernel
theorem tyX0_ok : ∀ k, k < 4 → parseFieldDescriptor (TX0 k).2.2.1 = some (tyX0 k) := by decide +kernel
abbrev cX0_init : ByteArray := prog_2_method_1_code
def yX0_init : MethodName := ⟨RX0, "<init>", "()V"⟩
abbrev cX0_startAnew : ByteArray := prog_2_method_2_code
def yX0_startAnew : MethodName := ⟨RX0, "startAnew", "()V"⟩
abbrev cX0_become : ByteArray := prog_2_method_3_code
def yX0_become : MethodName := ⟨RX0, "become", "(LHeldBlades$Moment;)V"⟩
abbrev cX0_tick : ByteArray := prog_2_method_4_code
def yX0_tick : MethodName := ⟨RX0, "tick", "(LHeldBlades$Settings;)V"⟩
def RX1 : String := "HeldBlades$Past"
def TX1 : u_T := fun k => match k with
  | 0 => ("HeldBlades$Past", "moments", "[LHeldBlades$Moment;", true)
  | 1 => ("HeldBlades$Past", "next", "I", false)
  | _ => ("HeldBlades$Past", "size", "I", false)
def tyX1 : Nat → FieldType := fun k => match k with
  | 0 => .array (.object "HeldBlades$Moment")
  | 1 => .int
  | _ => .int
abbrev wsX10 : List Cond := u_ws RX1 TX1 3
theorem nmX1 : ∀ a, a < 3 → ∀ b, b < 3 → a ≠ b → (TX1 a).2.1 ≠ (TX1 b).2.1 := by decide +kernel
theorem tyX1_ok : ∀ k, k < 3 → parseFieldDescriptor (TX1 k).2.2.1 = some (tyX1 k) := by decide +kernel
abbrev cX1_init : ByteArray := prog_3_method_1_code
def yX1_init : MethodName := ⟨RX1, "<init>", "()V"⟩
abbrev cX1_lose : ByteArray := prog_3_method_2_code
def yX1_lose : MethodName := ⟨RX1, "lose", "()V"⟩
abbrev cX1_add : ByteArray := prog_3_method_3_code
def yX1_add : MethodName := ⟨RX1, "add", "(LHeldBlades$Moment;)V"⟩
abbrev cX1_takeLatest : ByteArray := prog_3_method_4_code
def yX1_takeLatest : MethodName := ⟨RX1, "takeLatest", "(LHeldBlades$Moment;)V"⟩
def RX2 : String := "HeldBlades$Rain"
def TX2 : u_T := fun k => match k with
  | 0 => ("HeldBlades$Rain", "turns", "[I", true)
  | 1 => ("HeldBlades$Rain", "turnCount", "I", false)
  | 2 => ("HeldBlades$Rain", "row", "[I", true)
  | 3 => ("HeldBlades$Rain", "rowSize", "I", false)
  | 4 => ("HeldBlades$Rain", "differences", "[I", true)
  | 5 => ("HeldBlades$Rain", "halfCounts", "[I", true)
  | 6 => ("HeldBlades$Rain", "kinds", "I", false)
  | _ => ("HeldBlades$Rain", "cycles", "I", false)
def tyX2 : Nat → FieldType := fun k => match k with
  | 0 => .array .int
  | 1 => .int
  | 2 => .array .int
  | 3 => .int
  | 4 => .array .int
  | 5 => .array .int
  | 6 => .int
  | _ => .int
abbrev wsX20 : List Cond := u_ws RX2 TX2 8
theorem nmX2 : ∀ a, a < 8 → ∀ b, b < 8 → a ≠ b → (TX2 a).2.1 ≠ (TX2 b).2.1 := by decide +kernel
theorem tyX2_ok : ∀ k, k < 8 → parseFieldDescriptor (TX2 k).2.2.1 = some (tyX2 k) := by decide +kernel
abbrev cX2_init : ByteArray := prog_4_method_1_code
def yX2_init : MethodName := ⟨RX2, "<init>", "()V"⟩
abbrev cX2_pour : ByteArray := prog_4_method_2_code
def yX2_pour : MethodName := ⟨RX2, "pour", "(LHeldBlades$Trace;)V"⟩
abbrev cX2_findTurn : ByteArray := prog_4_method_3_code
def yX2_findTurn : MethodName := ⟨RX2, "findTurn", "(I)V"⟩
abbrev cX2_addToRow : ByteArray := prog_4_method_4_code
def yX2_addToRow : MethodName := ⟨RX2, "addToRow", "(I)V"⟩
abbrev cX2_isCycleInside : ByteArray := prog_4_method_5_code
def yX2_isCycleInside : MethodName := ⟨RX2, "isCycleInside", "()Z"⟩
abbrev cX2_addHalves : ByteArray := prog_4_method_6_code
def yX2_addHalves : MethodName := ⟨RX2, "addHalves", "(II)V"⟩
abbrev cX2_placeOf : ByteArray := prog_4_method_7_code
def yX2_placeOf : MethodName := ⟨RX2, "placeOf", "(I)I"⟩
abbrev cX2_halvesOf : ByteArray := prog_4_method_8_code
def yX2_halvesOf : MethodName := ⟨RX2, "halvesOf", "(I)I"⟩
abbrev cX2_greatestDifference : ByteArray := prog_4_method_9_code
def yX2_greatestDifference : MethodName := ⟨RX2, "greatestDifference", "()I"⟩
abbrev cX2_allHalves : ByteArray := prog_4_method_10_code
def yX2_allHalves : MethodName := ⟨RX2, "allHalves", "()I"⟩
def RX3 : String := "HeldBlades$Reader"
def TX3 : u_T := fun k => match k with
  | 0 => ("HeldBlades$Reader", "draft", "LHeldBlades$Settings;", true)
  | 1 => ("HeldBlades$Reader", "awaited", "I", false)
  | 2 => ("HeldBlades$Reader", "what", "I", false)
  | 3 => ("HeldBlades$Reader", "told", "I", false)
  | _ => ("HeldBlades$Reader", "items", "I", false)
def tyX3 : Nat → FieldType := fun k => match k with
  | 0 => .object "HeldBlades$Settings"
  | 1 => .int
  | 2 => .int
  | 3 => .int
  | _ => .int
abbrev wsX30 : List Cond := u_ws RX3 TX3 5
theorem nmX3 : ∀ a, a < 5 → ∀ b, b < 5 → a ≠ b → (TX3 a).2.1 ≠ (TX3 b).2.1 := by decide +kernel
theorem tyX3_ok : ∀ k, k < 5 → parseFieldDescriptor (TX3 k).2.2.1 = some (tyX3 k) := by decide +kernel
abbrev cX3_init : ByteArray := prog_5_method_1_code
def yX3_init : MethodName := ⟨RX3, "<init>", "()V"⟩
abbrev cX3_read : ByteArray := prog_5_method_2_code
def yX3_read : MethodName := ⟨RX3, "read", "(LHeldBlades$Text;)I"⟩
abbrev cX3_takes : ByteArray := prog_5_method_3_code
def yX3_takes : MethodName := ⟨RX3, "takes", "(LHeldBlades$Text;II)Z"⟩
abbrev cX3_takesLetter : ByteArray := prog_5_method_4_code
def yX3_takesLetter : MethodName := ⟨RX3, "takesLetter", "(I)Z"⟩
abbrev cX3_takesNumber : ByteArray := prog_5_method_5_code
def yX3_takesNumber : MethodName := ⟨RX3, "takesNumber", "(I)Z"⟩
abbrev cX3_takesEnd : ByteArray := prog_5_method_6_code
def yX3_takesEnd : MethodName := ⟨RX3, "takesEnd", "(I)Z"⟩
abbrev cX3_isTold : ByteArray := prog_5_method_7_code
def yX3_isTold : MethodName := ⟨RX3, "isTold", "(I)Z"⟩
abbrev cX3_settingOf : ByteArray := prog_5_method_8_code
def yX3_settingOf : MethodName := ⟨RX3, "settingOf", "(I)I"⟩
def RX4 : String := "HeldBlades$Seen"
def TX4 : u_T := fun k => match k with
  | 0 => ("HeldBlades$Seen", "ticks", "[I", true)
  | 1 => ("HeldBlades$Seen", "winds", "[I", true)
  | 2 => ("HeldBlades$Seen", "speeds", "[I", true)
  | 3 => ("HeldBlades$Seen", "speedByIce", "[I", true)
  | _ => ("HeldBlades$Seen", "size", "I", false)
def tyX4 : Nat → FieldType := fun k => match k with
  | 0 => .array .int
  | 1 => .array .int
  | 2 => .array .int
  | 3 => .array .int
  | _ => .int
abbrev wsX40 : List Cond := u_ws RX4 TX4 5
theorem nmX4 : ∀ a, a < 5 → ∀ b, b < 5 → a ≠ b → (TX4 a).2.1 ≠ (TX4 b).2.1 := by decide +kernel
theorem tyX4_ok : ∀ k, k < 5 → parseFieldDescriptor (TX4 k).2.2.1 = some (tyX4 k) := by decide +kernel
abbrev cX4_init : ByteArray := prog_6_method_1_code
def yX4_init : MethodName := ⟨RX4, "<init>", "()V"⟩
abbrev cX4_add : ByteArray := prog_6_method_2_code
def yX4_add : MethodName := ⟨RX4, "add", "(III)V"⟩
def RX5 : String := "HeldBlades$Settings"
def TX5 : u_T := fun k => match k with
  | 0 => ("HeldBlades$Settings", "rated", "I", false)
  | 1 => ("HeldBlades$Settings", "trip", "I", false)
  | 2 => ("HeldBlades$Settings", "cutIn", "I", false)
  | 3 => ("HeldBlades$Settings", "cutOut", "I", false)
  | 4 => ("HeldBlades$Settings", "limit", "I", false)
  | _ => ("HeldBlades$Settings", "rate", "I", false)
def tyX5 : Nat → FieldType := fun k => match k with
  | 0 => .int
  | 1 => .int
  | 2 => .int
  | 3 => .int
  | 4 => .int
  | _ => .int
abbrev wsX50 : List Cond := u_ws RX5 TX5 6
theorem nmX5 : ∀ a, a < 6 → ∀ b, b < 6 → a ≠ b → (TX5 a).2.1 ≠ (TX5 b).2.1 := by decide +kernel
theorem tyX5_ok : ∀ k, k < 6 → parseFieldDescriptor (TX5 k).2.2.1 = some (tyX5 k) := by decide +kernel
abbrev cX5_init : ByteArray := prog_7_method_1_code
def yX5_init : MethodName := ⟨RX5, "<init>", "()V"⟩
abbrev cX5_startAnew : ByteArray := prog_7_method_2_code
def yX5_startAnew : MethodName := ⟨RX5, "startAnew", "()V"⟩
abbrev cX5_become : ByteArray := prog_7_method_3_code
def yX5_become : MethodName := ⟨RX5, "become", "(LHeldBlades$Settings;)V"⟩
abbrev cX5_tell : ByteArray := prog_7_method_4_code
def yX5_tell : MethodName := ⟨RX5, "tell", "(I)I"⟩
abbrev cX5_mayBe : ByteArray := prog_7_method_5_code
def yX5_mayBe : MethodName := ⟨RX5, "mayBe", "(II)Z"⟩
abbrev cX5_put : ByteArray := prog_7_method_6_code
def yX5_put : MethodName := ⟨RX5, "put", "(II)V"⟩
def RX6 : String := "HeldBlades$Text"
def TX6 : u_T := fun k => match k with
  | 0 => ("HeldBlades$Text", "letters", "[I", true)
  | _ => ("HeldBlades$Text", "length", "I", false)
def tyX6 : Nat → FieldType := fun k => match k with
  | 0 => .array .int
  | _ => .int
abbrev wsX60 : List Cond := u_ws RX6 TX6 2
theorem nmX6 : ∀ a, a < 2 → ∀ b, b < 2 → a ≠ b → (TX6 a).2.1 ≠ (TX6 b).2.1 := by decide +kernel
theorem tyX6_ok : ∀ k, k < 2 → parseFieldDescriptor (TX6 k).2.2.1 = some (tyX6 k) := by decide +kernel
abbrev cX6_init : ByteArray := prog_8_method_1_code
def yX6_init : MethodName := ⟨RX6, "<init>", "()V"⟩
abbrev cX6_append : ByteArray := prog_8_method_2_code
def yX6_append : MethodName := ⟨RX6, "append", "(I)V"⟩
abbrev cX6_letterAt : ByteArray := prog_8_method_3_code
def yX6_letterAt : MethodName := ⟨RX6, "letterAt", "(I)I"⟩
abbrev cX6_isFigureAt : ByteArray := prog_8_method_4_code
def yX6_isFigureAt : MethodName := ⟨RX6, "isFigureAt", "(I)Z"⟩
abbrev cX6_behindBlanks : ByteArray := prog_8_method_5_code
def yX6_behindBlanks : MethodName := ⟨RX6, "behindBlanks", "(I)I"⟩
abbrev cX6_behindToken : ByteArray := prog_8_method_6_code
def yX6_behindToken : MethodName := ⟨RX6, "behindToken", "(I)I"⟩
abbrev cX6_numberAt : ByteArray := prog_8_method_7_code
def yX6_numberAt : MethodName := ⟨RX6, "numberAt", "(II)I"⟩
def RX7 : String := "HeldBlades$Trace"
def TX7 : u_T := fun k => match k with
  | 0 => ("HeldBlades$Trace", "speeds", "[I", true)
  | 1 => ("HeldBlades$Trace", "next", "I", false)
  | _ => ("HeldBlades$Trace", "size", "I", false)
def tyX7 : Nat → FieldType := fun k => match k with
  | 0 => .array .int
  | 1 => .int
  | _ => .int
abbrev wsX70 : List Cond := u_ws RX7 TX7 3
theorem nmX7 : ∀ a, a < 3 → ∀ b, b < 3 → a ≠ b → (TX7 a).2.1 ≠ (TX7 b).2.1 := by decide +kernel
theorem tyX7_ok : ∀ k, k < 3 → parseFieldDescriptor (TX7 k).2.2.1 = some (tyX7 k) := by decide +kernel
abbrev cX7_init : ByteArray := prog_9_method_1_code
def yX7_init : MethodName := ⟨RX7, "<init>", "()V"⟩
abbrev cX7_startAnew : ByteArray := prog_9_method_2_code
def yX7_startAnew : MethodName := ⟨RX7, "startAnew", "()V"⟩
abbrev cX7_become : ByteArray := prog_9_method_3_code
def yX7_become : MethodName := ⟨RX7, "become", "(LHeldBlades$Trace;)V"⟩
abbrev cX7_add : ByteArray := prog_9_method_4_code
def yX7_add : MethodName := ⟨RX7, "add", "(I)V"⟩
abbrev cX7_speedAgo : ByteArray := prog_9_method_5_code
def yX7_speedAgo : MethodName := ⟨RX7, "speedAgo", "(I)I"⟩
def RX8 : String := "HeldBlades$Wheel"
def TX8 : u_T := fun k => match k with
  | 0 => ("HeldBlades$Wheel", "mode", "I", false)
  | 1 => ("HeldBlades$Wheel", "speed", "I", false)
  | 2 => ("HeldBlades$Wheel", "pitch", "I", false)
  | 3 => ("HeldBlades$Wheel", "torque", "I", false)
  | 4 => ("HeldBlades$Wheel", "wind", "I", false)
  | 5 => ("HeldBlades$Wheel", "from", "I", false)
  | 6 => ("HeldBlades$Wheel", "heading", "I", false)
  | 7 => ("HeldBlades$Wheel", "twist", "I", false)
  | 8 => ("HeldBlades$Wheel", "ice", "I", false)
  | 9 => ("HeldBlades$Wheel", "gridThere", "Z", false)
  | 10 => ("HeldBlades$Wheel", "wanted", "Z", false)
  | 11 => ("HeldBlades$Wheel", "good", "I", false)
  | 12 => ("HeldBlades$Wheel", "storm", "I", false)
  | 13 => ("HeldBlades$Wheel", "away", "I", false)
  | 14 => ("HeldBlades$Wheel", "off", "I", false)
  | _ => ("HeldBlades$Wheel", "unwinding", "Z", false)
def tyX8 : Nat → FieldType := fun k => match k with
  | 0 => .int
  | 1 => .int
  | 2 => .int
  | 3 => .int
  | 4 => .int
  | 5 => .int
  | 6 => .int
  | 7 => .int
  | 8 => .int
  | 9 => .boolean
  | 10 => .boolean
  | 11 => .int
  | 12 => .int
  | 13 => .int
  | 14 => .int
  | _ => .boolean
abbrev wsX80 : List Cond := u_ws RX8 TX8 16
theorem nmX8 : ∀ a, a < 16 → ∀ b, b < 16 → a ≠ b → (TX8 a).2.1 ≠ (TX8 b).2.1 := by decide +kernel
theorem tyX8_ok : ∀ k, k < 16 → parseFieldDescriptor (TX8 k).2.2.1 = some (tyX8 k) := by decide +kernel
abbrev cX8_init : ByteArray := prog_10_method_1_code
def yX8_init : MethodName := ⟨RX8, "<init>", "()V"⟩
abbrev cX8_startAnew : ByteArray := prog_10_method_2_code
def yX8_startAnew : MethodName := ⟨RX8, "startAnew", "()V"⟩
abbrev cX8_become : ByteArray := prog_10_method_3_code
def yX8_become : MethodName := ⟨RX8, "become", "(LHeldBlades$Wheel;)V"⟩
abbrev cX8_step : ByteArray := prog_10_method_4_code
def yX8_step : MethodName := ⟨RX8, "step", "(LHeldBlades$Settings;)V"⟩
abbrev cX8_nextMode : ByteArray := prog_10_method_5_code
def yX8_nextMode : MethodName := ⟨RX8, "nextMode", "(LHeldBlades$Settings;)I"⟩
abbrev cX8_isWound : ByteArray := prog_10_method_6_code
def yX8_isWound : MethodName := ⟨RX8, "isWound", "(I)Z"⟩
abbrev cX8_pitchAim : ByteArray := prog_10_method_7_code
def yX8_pitchAim : MethodName := ⟨RX8, "pitchAim", "(LHeldBlades$Settings;)I"⟩
abbrev cX8_torqueAim : ByteArray := prog_10_method_8_code
def yX8_torqueAim : MethodName := ⟨RX8, "torqueAim", "(LHeldBlades$Settings;)I"⟩
abbrev cX8_nearer : ByteArray := prog_10_method_9_code
def yX8_nearer : MethodName := ⟨RX8, "nearer", "(III)I"⟩
abbrev cX8_ahead : ByteArray := prog_10_method_10_code
def yX8_ahead : MethodName := ⟨RX8, "ahead", "()I"⟩
abbrev cX8_error : ByteArray := prog_10_method_11_code
def yX8_error : MethodName := ⟨RX8, "error", "()I"⟩
abbrev cX8_drive : ByteArray := prog_10_method_12_code
def yX8_drive : MethodName := ⟨RX8, "drive", "(I)I"⟩
abbrev cX8_drag : ByteArray := prog_10_method_13_code
def yX8_drag : MethodName := ⟨RX8, "drag", "()I"⟩
abbrev cX8_turn : ByteArray := prog_10_method_14_code
def yX8_turn : MethodName := ⟨RX8, "turn", "(I)V"⟩
abbrev cX8_turnBy : ByteArray := prog_10_method_15_code
def yX8_turnBy : MethodName := ⟨RX8, "turnBy", "(I)V"⟩
abbrev cX8_tell : ByteArray := prog_10_method_16_code
def yX8_tell : MethodName := ⟨RX8, "tell", "(I)I"⟩
def RX9 : String := "HeldBlades"
def TX9 : u_T := fun k => match k with
  | 0 => ("HeldBlades", "settings", "LHeldBlades$Settings;", true)
  | 1 => ("HeldBlades", "text", "LHeldBlades$Text;", true)
  | 2 => ("HeldBlades", "reader", "LHeldBlades$Reader;", true)
  | 3 => ("HeldBlades", "present", "LHeldBlades$Moment;", true)
  | 4 => ("HeldBlades", "past", "LHeldBlades$Past;", true)
  | 5 => ("HeldBlades", "images", "[LHeldBlades$Moment;", true)
  | 6 => ("HeldBlades", "kept", "[Z", true)
  | 7 => ("HeldBlades", "seen", "LHeldBlades$Seen;", true)
  | 8 => ("HeldBlades", "roof", "LHeldBlades$Rain;", true)
  | _ => ("HeldBlades", "trial", "LHeldBlades$Wheel;", true)
def tyX9 : Nat → FieldType := fun k => match k with
  | 0 => .object "HeldBlades$Settings"
  | 1 => .object "HeldBlades$Text"
  | 2 => .object "HeldBlades$Reader"
  | 3 => .object "HeldBlades$Moment"
  | 4 => .object "HeldBlades$Past"
  | 5 => .array (.object "HeldBlades$Moment")
  | 6 => .array .boolean
  | 7 => .object "HeldBlades$Seen"
  | 8 => .object "HeldBlades$Rain"
  | _ => .object "HeldBlades$Wheel"
abbrev wsX90 : List Cond := u_ws RX9 TX9 10
theorem nmX9 : ∀ a, a < 10 → ∀ b, b < 10 → a ≠ b → (TX9 a).2.1 ≠ (TX9 b).2.1 := by decide +kernel
theorem tyX9_ok : ∀ k, k < 10 → parseFieldDescriptor (TX9 k).2.2.1 = some (tyX9 k) := by decide +kernel
abbrev cX9_init : ByteArray := prog_1_method_1_code
def yX9_init : MethodName := ⟨RX9, "<init>", "()V"⟩
abbrev cX9_type : ByteArray := prog_1_method_2_code
def yX9_type : MethodName := ⟨RX9, "type", "(I)I"⟩
abbrev cX9_clear : ByteArray := prog_1_method_3_code
def yX9_clear : MethodName := ⟨RX9, "clear", "()I"⟩
abbrev cX9_tells : ByteArray := prog_1_method_4_code
def yX9_tells : MethodName := ⟨RX9, "tells", "()I"⟩
abbrev cX9_loseImages : ByteArray := prog_1_method_5_code
def yX9_loseImages : MethodName := ⟨RX9, "loseImages", "()V"⟩
abbrev cX9_blows : ByteArray := prog_1_method_6_code
def yX9_blows : MethodName := ⟨RX9, "blows", "(II)I"⟩
abbrev cX9_ices : ByteArray := prog_1_method_7_code
def yX9_ices : MethodName := ⟨RX9, "ices", "(I)I"⟩
abbrev cX9_grids : ByteArray := prog_1_method_8_code
def yX9_grids : MethodName := ⟨RX9, "grids", "(I)I"⟩
abbrev cX9_wants : ByteArray := prog_1_method_9_code
def yX9_wants : MethodName := ⟨RX9, "wants", "(I)I"⟩
abbrev cX9_resets : ByteArray := prog_1_method_10_code
def yX9_resets : MethodName := ⟨RX9, "resets", "()I"⟩
abbrev cX9_ticks : ByteArray := prog_1_method_11_code
def yX9_ticks : MethodName := ⟨RX9, "ticks", "(I)I"⟩
abbrev cX9_undo : ByteArray := prog_1_method_12_code
def yX9_undo : MethodName := ⟨RX9, "undo", "()I"⟩
abbrev cX9_now : ByteArray := prog_1_method_13_code
def yX9_now : MethodName := ⟨RX9, "now", "(I)I"⟩
abbrev cX9_setting : ByteArray := prog_1_method_14_code
def yX9_setting : MethodName := ⟨RX9, "setting", "(I)I"⟩
abbrev cX9_record : ByteArray := prog_1_method_15_code
def yX9_record : MethodName := ⟨RX9, "record", "(I)I"⟩
abbrev cX9_gust : ByteArray := prog_1_method_16_code
def yX9_gust : MethodName := ⟨RX9, "gust", "(I)I"⟩
abbrev cX9_bearsGust : ByteArray := prog_1_method_17_code
def yX9_bearsGust : MethodName := ⟨RX9, "bearsGust", "(II)Z"⟩
abbrev cX9_dip : ByteArray := prog_1_method_18_code
def yX9_dip : MethodName := ⟨RX9, "dip", "()I"⟩
abbrev cX9_ridesDip : ByteArray := prog_1_method_19_code
def yX9_ridesDip : MethodName := ⟨RX9, "ridesDip", "(I)Z"⟩
abbrev cX9_halves : ByteArray := prog_1_method_20_code
def yX9_halves : MethodName := ⟨RX9, "halves", "(I)I"⟩
abbrev cX9_rain : ByteArray := prog_1_method_21_code
def yX9_rain : MethodName := ⟨RX9, "rain", "(I)I"⟩
abbrev cX9_sees : ByteArray := prog_1_method_22_code
def yX9_sees : MethodName := ⟨RX9, "sees", "(III)I"⟩
abbrev cX9_forget : ByteArray := prog_1_method_23_code
def yX9_forget : MethodName := ⟨RX9, "forget", "()I"⟩
abbrev cX9_which : ByteArray := prog_1_method_24_code
def yX9_which : MethodName := ⟨RX9, "which", "()I"⟩
abbrev cX9_ask : ByteArray := prog_1_method_25_code
def yX9_ask : MethodName := ⟨RX9, "ask", "()I"⟩
abbrev cX9_possibleIce : ByteArray := prog_1_method_26_code
def yX9_possibleIce : MethodName := ⟨RX9, "possibleIce", "()I"⟩
abbrev cX9_agreesWithSeen : ByteArray := prog_1_method_27_code
def yX9_agreesWithSeen : MethodName := ⟨RX9, "agreesWithSeen", "(I)Z"⟩
abbrev cX9_mostAlike : ByteArray := prog_1_method_28_code
def yX9_mostAlike : MethodName := ⟨RX9, "mostAlike", "(II)I"⟩
abbrev cX9_alikeUpTo : ByteArray := prog_1_method_29_code
def yX9_alikeUpTo : MethodName := ⟨RX9, "alikeUpTo", "(II)I"⟩
abbrev cX9_speedAfter : ByteArray := prog_1_method_30_code
def yX9_speedAfter : MethodName := ⟨RX9, "speedAfter", "(III)I"⟩
abbrev cX9_keep : ByteArray := prog_1_method_31_code
def yX9_keep : MethodName := ⟨RX9, "keep", "(I)I"⟩
abbrev cX9_back : ByteArray := prog_1_method_32_code
def yX9_back : MethodName := ⟨RX9, "back", "(I)I"⟩
abbrev cX9_count : ByteArray := prog_1_method_33_code
def yX9_count : MethodName := ⟨RX9, "count", "(I)I"⟩
abbrev cX9_isWithin : ByteArray := prog_1_method_34_code
def yX9_isWithin : MethodName := ⟨RX9, "isWithin", "(III)Z"⟩
def RX10 : String := "HeldBladesModel"
def TX10 : u_T := fun k => match k with
  | 0 => ("HeldBladesModel", "s", "[I", true)
  | 1 => ("HeldBladesModel", "t", "[I", true)
  | 2 => ("HeldBladesModel", "past", "[I", true)
  | 3 => ("HeldBladesModel", "undos", "I", false)
  | 4 => ("HeldBladesModel", "kept", "[I", true)
  | 5 => ("HeldBladesModel", "isKept", "[Z", true)
  | 6 => ("HeldBladesModel", "set", "[I", true)
  | 7 => ("HeldBladesModel", "text", "[I", true)
  | 8 => ("HeldBladesModel", "typed", "I", false)
  | 9 => ("HeldBladesModel", "at", "I", false)
  | 10 => ("HeldBladesModel", "start", "I", false)
  | 11 => ("HeldBladesModel", "token", "I", false)
  | 12 => ("HeldBladesModel", "value", "I", false)
  | 13 => ("HeldBladesModel", "fault", "I", false)
  | 14 => ("HeldBladesModel", "newSet", "[I", true)
  | 15 => ("HeldBladesModel", "toldOnes", "I", false)
  | 16 => ("HeldBladesModel", "unlike", "[I", true)
  | 17 => ("HeldBladesModel", "turning", "[I", true)
  | 18 => ("HeldBladesModel", "turnMany", "I", false)
  | 19 => ("HeldBladesModel", "row", "[I", true)
  | 20 => ("HeldBladesModel", "rowMany", "I", false)
  | 21 => ("HeldBladesModel", "halves", "[I", true)
  | 22 => ("HeldBladesModel", "cycles", "I", false)
  | 23 => ("HeldBladesModel", "sight", "[I", true)
  | 24 => ("HeldBladesModel", "sights", "I", false)
  | _ => ("HeldBladesModel", "speeds", "[I", true)
def tyX10 : Nat → FieldType := fun k => match k with
  | 0 => .array .int
  | 1 => .array .int
  | 2 => .array .int
  | 3 => .int
  | 4 => .array .int
  | 5 => .array .boolean
  | 6 => .array .int
  | 7 => .array .int
  | 8 => .int
  | 9 => .int
  | 10 => .int
  | 11 => .int
  | 12 => .int
  | 13 => .int
  | 14 => .array .int
  | 15 => .int
  | 16 => .array .int
  | 17 => .array .int
  | 18 => .int
  | 19 => .array .int
  | 20 => .int
  | 21 => .array .int
  | 22 => .int
  | 23 => .array .int
  | 24 => .int
  | _ => .array .int
abbrev wsX100 : List Cond := u_ws RX10 TX10 26
theorem nmX10 : ∀ a, a < 26 → ∀ b, b < 26 → a ≠ b → (TX10 a).2.1 ≠ (TX10 b).2.1 := by decide +kernel
theorem tyX10_ok : ∀ k, k < 26 → parseFieldDescriptor (TX10 k).2.2.1 = some (tyX10 k) := by decide +kernel
abbrev cX10_init : ByteArray := prog_12_method_1_code
def yX10_init : MethodName := ⟨RX10, "<init>", "()V"⟩
abbrev cX10_in : ByteArray := prog_12_method_2_code
def yX10_in : MethodName := ⟨RX10, "in", "(III)Z"⟩
abbrev cX10_away : ByteArray := prog_12_method_3_code
def yX10_away : MethodName := ⟨RX10, "away", "(II)I"⟩
abbrev cX10_type : ByteArray := prog_12_method_4_code
def yX10_type : MethodName := ⟨RX10, "type", "(I)I"⟩
abbrev cX10_clear : ByteArray := prog_12_method_5_code
def yX10_clear : MethodName := ⟨RX10, "clear", "()I"⟩
abbrev cX10_isFigure : ByteArray := prog_12_method_6_code
def yX10_isFigure : MethodName := ⟨RX10, "isFigure", "()Z"⟩
abbrev cX10_next : ByteArray := prog_12_method_7_code
def yX10_next : MethodName := ⟨RX10, "next", "()V"⟩
abbrev cX10_whichOf : ByteArray := prog_12_method_8_code
def yX10_whichOf : MethodName := ⟨RX10, "whichOf", "(I)I"⟩
abbrev cX10_must : ByteArray := prog_12_method_9_code
def yX10_must : MethodName := ⟨RX10, "must", "(Z)V"⟩
abbrev cX10_leastOf : ByteArray := prog_12_method_10_code
def yX10_leastOf : MethodName := ⟨RX10, "leastOf", "(I)I"⟩
abbrev cX10_mostOf : ByteArray := prog_12_method_11_code
def yX10_mostOf : MethodName := ⟨RX10, "mostOf", "(I)I"⟩
abbrev cX10_isToldAlready : ByteArray := prog_12_method_12_code
def yX10_isToldAlready : MethodName := ⟨RX10, "isToldAlready", "(I)Z"⟩
abbrev cX10_readsItem : ByteArray := prog_12_method_13_code
def yX10_readsItem : MethodName := ⟨RX10, "readsItem", "()V"⟩
abbrev cX10_plain : ByteArray := prog_12_method_14_code
def yX10_plain : MethodName := ⟨RX10, "plain", "()V"⟩
abbrev cX10_takesOver : ByteArray := prog_12_method_15_code
def yX10_takesOver : MethodName := ⟨RX10, "takesOver", "()V"⟩
abbrev cX10_tells : ByteArray := prog_12_method_16_code
def yX10_tells : MethodName := ⟨RX10, "tells", "()I"⟩
abbrev cX10_errorOf : ByteArray := prog_12_method_17_code
def yX10_errorOf : MethodName := ⟨RX10, "errorOf", "([I)I"⟩
abbrev cX10_driveOf : ByteArray := prog_12_method_18_code
def yX10_driveOf : MethodName := ⟨RX10, "driveOf", "([I)I"⟩
abbrev cX10_isWound : ByteArray := prog_12_method_19_code
def yX10_isWound : MethodName := ⟨RX10, "isWound", "([I)Z"⟩
abbrev cX10_counts : ByteArray := prog_12_method_20_code
def yX10_counts : MethodName := ⟨RX10, "counts", "([I)V"⟩
abbrev cX10_modeOf : ByteArray := prog_12_method_21_code
def yX10_modeOf : MethodName := ⟨RX10, "modeOf", "([I)I"⟩
abbrev cX10_towards : ByteArray := prog_12_method_22_code
def yX10_towards : MethodName := ⟨RX10, "towards", "(III)I"⟩
abbrev cX10_pitchGoal : ByteArray := prog_12_method_23_code
def yX10_pitchGoal : MethodName := ⟨RX10, "pitchGoal", "([I)I"⟩
abbrev cX10_holds : ByteArray := prog_12_method_24_code
def yX10_holds : MethodName := ⟨RX10, "holds", "([I)V"⟩
abbrev cX10_turns : ByteArray := prog_12_method_25_code
def yX10_turns : MethodName := ⟨RX10, "turns", "([II)V"⟩
abbrev cX10_looksUp : ByteArray := prog_12_method_26_code
def yX10_looksUp : MethodName := ⟨RX10, "looksUp", "([II)V"⟩
abbrev cX10_goesOn : ByteArray := prog_12_method_27_code
def yX10_goesOn : MethodName := ⟨RX10, "goesOn", "([I)V"⟩
abbrev cX10_notesSpeed : ByteArray := prog_12_method_28_code
def yX10_notesSpeed : MethodName := ⟨RX10, "notesSpeed", "()V"⟩
abbrev cX10_notes : ByteArray := prog_12_method_29_code
def yX10_notes : MethodName := ⟨RX10, "notes", "()V"⟩
abbrev cX10_blows : ByteArray := prog_12_method_30_code
def yX10_blows : MethodName := ⟨RX10, "blows", "(II)I"⟩
abbrev cX10_ices : ByteArray := prog_12_method_31_code
def yX10_ices : MethodName := ⟨RX10, "ices", "(I)I"⟩
abbrev cX10_becomes : ByteArray := prog_12_method_32_code
def yX10_becomes : MethodName := ⟨RX10, "becomes", "(II)I"⟩
abbrev cX10_grids : ByteArray := prog_12_method_33_code
def yX10_grids : MethodName := ⟨RX10, "grids", "(I)I"⟩
abbrev cX10_wants : ByteArray := prog_12_method_34_code
def yX10_wants : MethodName := ⟨RX10, "wants", "(I)I"⟩
abbrev cX10_resets : ByteArray := prog_12_method_35_code
def yX10_resets : MethodName := ⟨RX10, "resets", "()I"⟩
abbrev cX10_ticks : ByteArray := prog_12_method_36_code
def yX10_ticks : MethodName := ⟨RX10, "ticks", "(I)I"⟩
abbrev cX10_undo : ByteArray := prog_12_method_37_code
def yX10_undo : MethodName := ⟨RX10, "undo", "()I"⟩
abbrev cX10_now : ByteArray := prog_12_method_38_code
def yX10_now : MethodName := ⟨RX10, "now", "(I)I"⟩
abbrev cX10_setting : ByteArray := prog_12_method_39_code
def yX10_setting : MethodName := ⟨RX10, "setting", "(I)I"⟩
abbrev cX10_record : ByteArray := prog_12_method_40_code
def yX10_record : MethodName := ⟨RX10, "record", "(I)I"⟩
abbrev cX10_tries : ByteArray := prog_12_method_41_code
def yX10_tries : MethodName := ⟨RX10, "tries", "()V"⟩
abbrev cX10_bears : ByteArray := prog_12_method_42_code
def yX10_bears : MethodName := ⟨RX10, "bears", "(II)Z"⟩
abbrev cX10_gust : ByteArray := prog_12_method_43_code
def yX10_gust : MethodName := ⟨RX10, "gust", "(I)I"⟩
abbrev cX10_rides : ByteArray := prog_12_method_44_code
def yX10_rides : MethodName := ⟨RX10, "rides", "(I)Z"⟩
abbrev cX10_dip : ByteArray := prog_12_method_45_code
def yX10_dip : MethodName := ⟨RX10, "dip", "()I"⟩
abbrev cX10_unlikeOnes : ByteArray := prog_12_method_46_code
def yX10_unlikeOnes : MethodName := ⟨RX10, "unlikeOnes", "()I"⟩
abbrev cX10_findsTurns : ByteArray := prog_12_method_47_code
def yX10_findsTurns : MethodName := ⟨RX10, "findsTurns", "()V"⟩
abbrev cX10_closes : ByteArray := prog_12_method_48_code
def yX10_closes : MethodName := ⟨RX10, "closes", "()Z"⟩
abbrev cX10_rains : ByteArray := prog_12_method_49_code
def yX10_rains : MethodName := ⟨RX10, "rains", "()V"⟩
abbrev cX10_halvesOf : ByteArray := prog_12_method_50_code
def yX10_halvesOf : MethodName := ⟨RX10, "halvesOf", "(I)I"⟩
abbrev cX10_halves : ByteArray := prog_12_method_51_code
def yX10_halves : MethodName := ⟨RX10, "halves", "(I)I"⟩
abbrev cX10_rain : ByteArray := prog_12_method_52_code
def yX10_rain : MethodName := ⟨RX10, "rain", "(I)I"⟩
abbrev cX10_sees : ByteArray := prog_12_method_53_code
def yX10_sees : MethodName := ⟨RX10, "sees", "(III)I"⟩
abbrev cX10_forget : ByteArray := prog_12_method_54_code
def yX10_forget : MethodName := ⟨RX10, "forget", "()I"⟩
abbrev cX10_speedBy : ByteArray := prog_12_method_55_code
def yX10_speedBy : MethodName := ⟨RX10, "speedBy", "(III)I"⟩
abbrev cX10_isSo : ByteArray := prog_12_method_56_code
def yX10_isSo : MethodName := ⟨RX10, "isSo", "(I)Z"⟩
abbrev cX10_which : ByteArray := prog_12_method_57_code
def yX10_which : MethodName := ⟨RX10, "which", "()I"⟩
abbrev cX10_mostAlike : ByteArray := prog_12_method_58_code
def yX10_mostAlike : MethodName := ⟨RX10, "mostAlike", "(II)I"⟩
abbrev cX10_ask : ByteArray := prog_12_method_59_code
def yX10_ask : MethodName := ⟨RX10, "ask", "()I"⟩
abbrev cX10_keep : ByteArray := prog_12_method_60_code
def yX10_keep : MethodName := ⟨RX10, "keep", "(I)I"⟩
abbrev cX10_back : ByteArray := prog_12_method_61_code
def yX10_back : MethodName := ⟨RX10, "back", "(I)I"⟩
abbrev cX10_count : ByteArray := prog_12_method_62_code
def yX10_count : MethodName := ⟨RX10, "count", "(I)I"⟩
def RJ6 : String := "java/lang/Integer"
def TJ6 : u_T := fun k => match k with
  | _ => ("", "", "", false)
def tyJ6 : Nat → FieldType := fun k => match k with
  | _ => .int
abbrev wsJ60 : List Cond := u_ws RJ6 TJ6 0
theorem nmJ6 : ∀ a, a < 0 → ∀ b, b < 0 → a ≠ b → (TJ6 a).2.1 ≠ (TJ6 b).2.1 := by decide +kernel
theorem tyJ6_ok : ∀ k, k < 0 → parseFieldDescriptor (TJ6 k).2.2.1 = some (tyJ6 k) := by decide +kernel
abbrev cJ6_bitCount_0f7a4 : ByteArray := prog_13_method_49_code
def yJ6_bitCount_0f7a4 : MethodName := ⟨RJ6, "bitCount", "(I)I"⟩
def RJ9 : String := "java/lang/Math"
def TJ9 : u_T := fun k => match k with
  | _ => ("", "", "", false)
def tyJ9 : Nat → FieldType := fun k => match k with
  | _ => .int
abbrev wsJ90 : List Cond := u_ws RJ9 TJ9 0
theorem nmJ9 : ∀ a, a < 0 → ∀ b, b < 0 → a ≠ b → (TJ9 a).2.1 ≠ (TJ9 b).2.1 := by decide +kernel
theorem tyJ9_ok : ∀ k, k < 0 → parseFieldDescriptor (TJ9 k).2.2.1 = some (tyJ9 k) := by decide +kernel
abbrev cJ9_floorDiv_7cf53 : ByteArray := prog_14_method_47_code
def yJ9_floorDiv_7cf53 : MethodName := ⟨RJ9, "floorDiv", "(II)I"⟩
abbrev cJ9_floorMod_7cf53 : ByteArray := prog_14_method_50_code
def yJ9_floorMod_7cf53 : MethodName := ⟨RJ9, "floorMod", "(II)I"⟩
abbrev cJ9_abs_0f7a4 : ByteArray := prog_14_method_59_code
def yJ9_abs_0f7a4 : MethodName := ⟨RJ9, "abs", "(I)I"⟩
abbrev cJ9_max_7cf53 : ByteArray := prog_14_method_65_code
def yJ9_max_7cf53 : MethodName := ⟨RJ9, "max", "(II)I"⟩
abbrev cJ9_min_7cf53 : ByteArray := prog_14_method_69_code
def yJ9_min_7cf53 : MethodName := ⟨RJ9, "min", "(II)I"⟩
def RJ10 : String := "java/lang/System"
def TJ10 : u_T := fun k => match k with
  | _ => ("", "", "", false)
def tyJ10 : Nat → FieldType := fun k => match k with
  | _ => .int
abbrev wsJ100 : List Cond := u_ws RJ10 TJ10 0
theorem nmJ10 : ∀ a, a < 0 → ∀ b, b < 0 → a ≠ b → (TJ10 a).2.1 ≠ (TJ10 b).2.1 := by decide +kernel
theorem tyJ10_ok : ∀ k, k < 0 → parseFieldDescriptor (TJ10 k).2.2.1 = some (tyJ10 k) := by decide +kernel
def RL : String := "HeldBladesLaw"
abbrev cL_law : ByteArray := code
def yL_law : MethodName := ⟨RL, "law", "([I)Z"⟩
abbrev vwCl : List vw_C := [(RX0, TX0, 4), (RX1, TX1, 3), (RX2, TX2, 8), (RX3, TX3, 5), (RX4, TX4, 5), (RX5, TX5, 6), (RX6, TX6, 2), (RX7, TX7, 3), (RX8, TX8, 16), (RX9, TX9, 10), (RX10, TX10, 26)]
end
section
/-! A small machine over places: what a method does, as a function; its values, its state, its instructions (resolved by the tables of part 03). -/
/-- a value: a number, or a reference (the kind of its cell, its place) -/
abbrev hV : Type := Int32 ⊕ Option (Nat × Nat)
/-- a state: the kinds of the cells by their places, their numbers, their references -/
abbrev hS : Type := List Nat × (Nat → Nat → Int32) × (Nat → Nat → Option (Nat × Nat))
/-- pc, instruction, next pc, four numbers by which it is resolved, a constant -/
abbrev hE : Type := Nat × Instr × Nat × Nat × Nat × Nat × Nat × Int32
abbrev hC : Type := Nat × List (List hE)
/-- goes on; calls; returns -/
abbrev hA : Type := (Nat × List (Option hV) × List hV × hS) ⊕ ((Nat × List hV × Nat × List hV × Bool) ⊕ Option Int32)
def hFetch (C : hC) (pc : Nat) : Option hE := match C.2[pc / 16]? with
  | some b => b.find? (fun e => e.1 == pc)
  | none => none
def h1 (st : List hV) (f : Int32 → List hV → Option hA) : Option hA := match st with
  | .inl x :: r => f x r
  | _ => none
def h2 (st : List hV) (f : Int32 → Int32 → List hV → Option hA) : Option hA := match st with
  | .inl y :: .inl x :: r => f x y r
  | _ => none
def hr (st : List hV) (f : Nat → Nat → List hV → Option hA) : Option hA := match st with
  | .inr (some (k, c)) :: r => f k c r
  | _ => none
/-- an index and the row under it -/
def hir (st : List hV) (f : Int32 → Nat → Nat → List hV → Option hA) : Option hA := match st with
  | .inl i :: .inr (some (k, c)) :: r => f i k c r
  | _ => none
def hIf (cc : ClassFile.Cond) (x y : Int32) (a nx : Nat) : Nat := match cc with
  | .eq => if x = y then a else nx
  | .ne => if ¬ x = y then a else nx
  | .lt => if x < y then a else nx
  | .ge => if y ≤ x then a else nx
  | .gt => if y < x then a else nx
  | .le => if x ≤ y then a else nx
def hTs (pc : Nat) (d lo hi : Int) (offs : Array Int) (x : Int32) : Nat := if x.toInt < lo ∨ hi < x.toInt then ((pc : Int) + d).toNat else match offs[(x.toInt - lo).toNat]? with
  | some o => ((pc : Int) + o).toNat
  | none => 0
def hLs (pc : Nat) (d : Int) (ps : Array (Int × Int)) (x : Int32) : Nat := ((pc : Int) + Op.lookupswitch.offset ps.toList d x.toInt).toNat
def hPut (S : hS) (c k : Nat) (x : Int32) : hS := (S.1, va_up S.2.1 c (upd (S.2.1 c) k x), S.2.2)
def hPutR (S : hS) (c k : Nat) (x : Nat × Nat) : hS := (S.1, S.2.1, va_up S.2.2 c (va_up (S.2.2 c) k (some x)))
def hNew (S : hS) (k : Nat) : hS := (S.1 ++ [k], va_up S.2.1 S.1.length (fun _ => 0), va_up S.2.2 S.1.length (fun _ => none))
def hPush (S : hS) (k nx : Nat) (L : List (Option hV)) (st : List hV) : Option hA := some (.inl (nx, L, .inr (some (k, S.1.length)) :: st, hNew S k))
/-- what one instruction does -/
def hAct (e : hE) (L : List (Option hV)) (st : List hV) (S : hS) : Option hA :=
  match e with
  | (pc, i, nx, a, b, d, _, v) => match i with
    | .iconst _ | .bipush _ | .sipush _ | .ldc _ | .ldc_w _ => some (.inl (nx, L, .inl v :: st, S))
    | .iload_n _ | .iload _ => match L[a]? with
      | some (some (.inl x)) => some (.inl (nx, L, .inl x :: st, S))
      | _ => none
    | .aload_n _ | .aload _ => match L[a]? with
      | some (some (.inr (some x))) => some (.inl (nx, L, .inr (some x) :: st, S))
      | _ => none
    | .istore_n _ | .istore _ => match st with
      | .inl x :: r => some (.inl (nx, L.set a (some (.inl x)), r, S))
      | _ => none
    | .astore_n _ => match st with
      | .inr (some x) :: r => some (.inl (nx, L.set a (some (.inr (some x))), r, S))
      | _ => none
    | .iinc _ _ => match L[a]? with
      | some (some (.inl x)) => some (.inl (nx, L.set a (some (.inl (x + v))), st, S))
      | _ => none
    | .iadd => h2 st fun x y r => some (.inl (nx, L, .inl (x + y) :: r, S))
    | .isub => h2 st fun x y r => some (.inl (nx, L, .inl (x - y) :: r, S))
    | .imul => h2 st fun x y r => some (.inl (nx, L, .inl (x * y) :: r, S))
    | .iand => h2 st fun x y r => some (.inl (nx, L, .inl (x &&& y) :: r, S))
    | .ior => h2 st fun x y r => some (.inl (nx, L, .inl (x ||| y) :: r, S))
    | .ixor => h2 st fun x y r => some (.inl (nx, L, .inl (x ^^^ y) :: r, S))
    | .ishl => h2 st fun x y r => some (.inl (nx, L, .inl (x <<< (y &&& 31)) :: r, S))
    | .ishr => h2 st fun x y r => some (.inl (nx, L, .inl (x >>> (y &&& 31)) :: r, S))
    | .iushr => h2 st fun x y r => some (.inl (nx, L, .inl ((x.toUInt32 >>> (y.toUInt32 &&& Int32.toUInt32 31)).toInt32) :: r, S))
    | .ineg => h1 st fun x r => some (.inl (nx, L, .inl (-x) :: r, S))
    | .idiv => h2 st fun x y r => if y = 0 then none else some (.inl (nx, L, .inl (x / y) :: r, S))
    | .irem => h2 st fun x y r => if y = 0 then none else some (.inl (nx, L, .inl (x - x / y * y) :: r, S))
    | .dup => match st with
      | x :: r => some (.inl (nx, L, x :: x :: r, S))
      | _ => none
    | .dup2 => match st with
      | x :: y :: r => some (.inl (nx, L, x :: y :: x :: y :: r, S))
      | _ => none
    | .if_icmp cc _ => h2 st fun x y r => some (.inl (hIf cc x y a nx, L, r, S))
    | .ifCond cc _ => h1 st fun x r => some (.inl (hIf cc x 0 a nx, L, r, S))
    | .goto _ => some (.inl (a, L, st, S))
    | .tableswitch d lo hi offs => h1 st fun x r => some (.inl (hTs pc d lo hi offs x, L, r, S))
    | .lookupswitch d ps => h1 st fun x r => some (.inl (hLs pc d ps x, L, r, S))
    | .getfield _ => match d with
      | 1 => hr st fun k c r => if k = a then some (.inl (nx, L, .inr (S.2.2 c b) :: r, S)) else none
      | _ => hr st fun k c r => if k = a then some (.inl (nx, L, .inl (S.2.1 c b) :: r, S)) else none
    | .putfield _ => match d, st with
      | 0, .inl x :: .inr (some (k, c)) :: r => if k = a then some (.inl (nx, L, r, hPut S c b x)) else none
      | 1, .inr (some x) :: .inr (some (k, c)) :: r => if k = a then some (.inl (nx, L, r, hPutR S c b x)) else none
      | 2, .inl x :: .inr (some (k, c)) :: r => if k = a then (if x = 0 ∨ x = 1 then some (.inl (nx, L, r, hPut S c b x)) else none) else none
      | _, _ => none
    | .iaload => hir st fun i k c r => if (10000 ≤ k ∧ k < 20000) ∧ 0 ≤ i.toInt ∧ i.toInt < ((k % 10000 : Nat) : Int) then some (.inl (nx, L, .inl (S.2.1 c i.toNatClampNeg) :: r, S)) else none
    | .baload => hir st fun i k c r => if (20000 ≤ k ∧ k < 30000) ∧ 0 ≤ i.toInt ∧ i.toInt < ((k % 10000 : Nat) : Int) then some (.inl (nx, L, .inl (S.2.1 c i.toNatClampNeg) :: r, S)) else none
    | .aaload => hir st fun i k c r => if (30000 ≤ k ∧ k < 40000) ∧ 0 ≤ i.toInt ∧ i.toInt < ((k % 10000 : Nat) : Int) then some (.inl (nx, L, .inr (S.2.2 c i.toNatClampNeg) :: r, S)) else none
    | .iastore => match st with
      | .inl x :: .inl i :: .inr (some (k, c)) :: r => if (10000 ≤ k ∧ k < 20000) ∧ 0 ≤ i.toInt ∧ i.toInt < ((k % 10000 : Nat) : Int) then some (.inl (nx, L, r, hPut S c i.toNatClampNeg x)) else none
      | _ => none
    | .bastore => match st with
      | .inl x :: .inl i :: .inr (some (k, c)) :: r => if (20000 ≤ k ∧ k < 30000) ∧ 0 ≤ i.toInt ∧ i.toInt < ((k % 10000 : Nat) : Int) then (if x = 0 ∨ x = 1 then some (.inl (nx, L, r, hPut S c i.toNatClampNeg x)) else none) else none
      | _ => none
    | .aastore => match st with
      | .inr (some (0, x)) :: .inl i :: .inr (some (k, c)) :: r => if (30000 ≤ k ∧ k < 40000) ∧ 0 ≤ i.toInt ∧ i.toInt < ((k % 10000 : Nat) : Int) then some (.inl (nx, L, r, hPutR S c i.toNatClampNeg (0, x))) else none
      | _ => none
    | .arraylength => hr st fun k _ r => if 10000 ≤ k ∧ k < 40000 then some (.inl (nx, L, .inl (Int32.ofNat (k % 10000)) :: r, S)) else none
    | .new _ => hPush S a nx L st
    | .newarray _ => h1 st fun n r => if 0 ≤ n.toInt ∧ n.toInt < 10000 then hPush S (a + n.toNatClampNeg) nx L r else none
    | .anewarray _ => h1 st fun n r => if 0 ≤ n.toInt ∧ n.toInt < 10000 then hPush S (30000 + n.toNatClampNeg) nx L r else none
    | .invokestatic _ => if a = 9999 then (match st with
        | .inl n :: .inl dp :: .inr (some (k1, c1)) :: .inl sp :: .inr (some (k0, c0)) :: r => if ((10000 ≤ k1 ∧ k1 < 20000) ∧ (10000 ≤ k0 ∧ k0 < 20000) ∧ r = []) ∧ (0 ≤ sp.toInt ∧ 0 ≤ dp.toInt ∧ 0 ≤ n.toInt) ∧ (sp.toNatClampNeg + n.toNatClampNeg ≤ k0 % 10000 ∧ dp.toNatClampNeg + n.toNatClampNeg ≤ k1 % 10000) then
            some (.inl (nx, L, r, (S.1, va_up S.2.1 c1 (va_cpy (S.2.1 c0) (S.2.1 c1) sp.toNatClampNeg dp.toNatClampNeg n.toNatClampNeg), S.2.2))) else none
        | _ => none)
      else if (st.take b).length = b ∧ (st.drop b).length ≤ 8 then some (.inr (.inl (a, (st.take b).reverse, nx, st.drop b, v = 1))) else none
    | .invokevirtual _ => match st.drop b with
      | .inr (some (k, c)) :: r => if k = d ∧ (st.take b).length = b ∧ r.length ≤ 8 then some (.inr (.inl (a, .inr (some (k, c)) :: (st.take b).reverse, nx, r, v = 1))) else none
      | _ => none
    | .invokespecial _ => if a = 9998 then (match st with
        | .inr (some _) :: r => if r.length ≤ 8 then some (.inl (nx, L, r, S)) else none
        | _ => none)
      else match st.drop b with
      | .inr (some (k, c)) :: r => if k = d ∧ (st.take b).length = b ∧ r.length ≤ 8 then some (.inr (.inl (a, .inr (some (k, c)) :: (st.take b).reverse, nx, r, v = 1))) else none
      | _ => none
    | .ireturn => match st with
      | [.inl x] => if d = 2 then (if x = 0 ∨ x = 1 then some (.inr (.inr (some x))) else none) else some (.inr (.inr (some x)))
      | _ => none
    | .return_ => match st with
      | [] => some (.inr (.inr none))
      | _ => none
    | _ => none
def hInit (n : Nat) (as : List hV) : List (Option hV) := as.map some ++ List.replicate (n - as.length) none
end
section
/-! The methods, instruction by instruction, by program out of the printed decode rows and the words of the tables. -/
def hc_J6_bitCount_0f7a4 : hC := (1, [[(0, .iload_n 0, 1, 0, 0, 0, 0, 0), (1, .iload_n 0, 2, 0, 0, 0, 0, 0), (2, .iconst 1, 3, 0, 0, 0, 0, 1), (3, .iushr, 4, 0, 0, 0, 0, 0), (4, .ldc_w 265, 7, 0, 0, 0, 764, 1431655765), (7, .iand, 8, 0, 0, 0, 0, 0), (8, .isub, 9, 0, 0, 0, 0, 0), (9, .istore_n 0, 10, 0, 0, 0, 0, 0), (10, .iload_n 0, 11, 0, 0, 0, 0, 0), (11, .ldc_w 266, 14, 0, 0, 0, 765, 858993459), (14, .iand, 15, 0, 0, 0, 0, 0), (15, .iload_n 0, 16, 0, 0, 0, 0, 0)], [(16, .iconst 2, 17, 0, 0, 0, 0, 2), (17, .iushr, 18, 0, 0, 0, 0, 0), (18, .ldc_w 266, 21, 0, 0, 0, 765, 858993459), (21, .iand, 22, 0, 0, 0, 0, 0), (22, .iadd, 23, 0, 0, 0, 0, 0), (23, .istore_n 0, 24, 0, 0, 0, 0, 0), (24, .iload_n 0, 25, 0, 0, 0, 0, 0), (25, .iload_n 0, 26, 0, 0, 0, 0, 0), (26, .iconst 4, 27, 0, 0, 0, 0, 4), (27, .iushr, 28, 0, 0, 0, 0, 0), (28, .iadd, 29, 0, 0, 0, 0, 0), (29, .ldc_w 267, 32, 0, 0, 0, 766, 252645135)], [(32, .iand, 33, 0, 0, 0, 0, 0), (33, .istore_n 0, 34, 0, 0, 0, 0, 0), (34, .iload_n 0, 35, 0, 0, 0, 0, 0), (35, .iload_n 0, 36, 0, 0, 0, 0, 0), (36, .bipush 8, 38, 0, 0, 0, 0, 8), (38, .iushr, 39, 0, 0, 0, 0, 0), (39, .iadd, 40, 0, 0, 0, 0, 0), (40, .istore_n 0, 41, 0, 0, 0, 0, 0), (41, .iload_n 0, 42, 0, 0, 0, 0, 0), (42, .iload_n 0, 43, 0, 0, 0, 0, 0), (43, .bipush 16, 45, 0, 0, 0, 0, 16), (45, .iushr, 46, 0, 0, 0, 0, 0), (46, .iadd, 47, 0, 0, 0, 0, 0), (47, .istore_n 0, 48, 0, 0, 0, 0, 0)], [(48, .iload_n 0, 49, 0, 0, 0, 0, 0), (49, .bipush 63, 51, 0, 0, 0, 0, 63), (51, .iand, 52, 0, 0, 0, 0, 0), (52, .ireturn, 53, 0, 0, 0, 0, 0)]])
def hc_J9_abs_0f7a4 : hC := (1, [[(0, .iload_n 0, 1, 0, 0, 0, 0, 0), (1, .ifCond .ge 8, 4, 9, 0, 0, 0, 0), (4, .iload_n 0, 5, 0, 0, 0, 0, 0), (5, .ineg, 6, 0, 0, 0, 0, 0), (6, .goto 4, 9, 10, 0, 0, 0, 0), (9, .iload_n 0, 10, 0, 0, 0, 0, 0), (10, .ireturn, 11, 0, 0, 0, 0, 0)]])
def hc_J9_floorDiv_7cf53 : hC := (3, [[(0, .iload_n 0, 1, 0, 0, 0, 0, 0), (1, .iload_n 1, 2, 1, 0, 0, 0, 0), (2, .idiv, 3, 0, 0, 0, 0, 0), (3, .istore_n 2, 4, 2, 0, 0, 0, 0), (4, .iload_n 0, 5, 0, 0, 0, 0, 0), (5, .iload_n 1, 6, 1, 0, 0, 0, 0), (6, .ixor, 7, 0, 0, 0, 0, 0), (7, .ifCond .ge 14, 10, 21, 0, 0, 0, 0), (10, .iload_n 2, 11, 2, 0, 0, 0, 0), (11, .iload_n 1, 12, 1, 0, 0, 0, 0), (12, .imul, 13, 0, 0, 0, 0, 0), (13, .iload_n 0, 14, 0, 0, 0, 0, 0), (14, .if_icmp .eq 7, 17, 21, 0, 0, 0, 0)], [(17, .iload_n 2, 18, 2, 0, 0, 0, 0), (18, .iconst 1, 19, 0, 0, 0, 0, 1), (19, .isub, 20, 0, 0, 0, 0, 0), (20, .ireturn, 21, 0, 0, 0, 0, 0), (21, .iload_n 2, 22, 2, 0, 0, 0, 0), (22, .ireturn, 23, 0, 0, 0, 0, 0)]])
def hc_J9_floorMod_7cf53 : hC := (3, [[(0, .iload_n 0, 1, 0, 0, 0, 0, 0), (1, .iload_n 1, 2, 1, 0, 0, 0, 0), (2, .irem, 3, 0, 0, 0, 0, 0), (3, .istore_n 2, 4, 2, 0, 0, 0, 0), (4, .iload_n 0, 5, 0, 0, 0, 0, 0), (5, .iload_n 1, 6, 1, 0, 0, 0, 0), (6, .ixor, 7, 0, 0, 0, 0, 0), (7, .ifCond .ge 11, 10, 18, 0, 0, 0, 0), (10, .iload_n 2, 11, 2, 0, 0, 0, 0), (11, .ifCond .eq 7, 14, 18, 0, 0, 0, 0), (14, .iload_n 2, 15, 2, 0, 0, 0, 0), (15, .iload_n 1, 16, 1, 0, 0, 0, 0)], [(16, .iadd, 17, 0, 0, 0, 0, 0), (17, .ireturn, 18, 0, 0, 0, 0, 0), (18, .iload_n 2, 19, 2, 0, 0, 0, 0), (19, .ireturn, 20, 0, 0, 0, 0, 0)]])
def hc_J9_max_7cf53 : hC := (2, [[(0, .iload_n 0, 1, 0, 0, 0, 0, 0), (1, .iload_n 1, 2, 1, 0, 0, 0, 0), (2, .if_icmp .lt 7, 5, 9, 0, 0, 0, 0), (5, .iload_n 0, 6, 0, 0, 0, 0, 0), (6, .goto 4, 9, 10, 0, 0, 0, 0), (9, .iload_n 1, 10, 1, 0, 0, 0, 0), (10, .ireturn, 11, 0, 0, 0, 0, 0)]])
def hc_J9_min_7cf53 : hC := (2, [[(0, .iload_n 0, 1, 0, 0, 0, 0, 0), (1, .iload_n 1, 2, 1, 0, 0, 0, 0), (2, .if_icmp .gt 7, 5, 9, 0, 0, 0, 0), (5, .iload_n 0, 6, 0, 0, 0, 0, 0), (6, .goto 4, 9, 10, 0, 0, 0, 0), (9, .iload_n 1, 10, 1, 0, 0, 0, 0), (10, .ireturn, 11, 0, 0, 0, 0, 0)]])
def hc_X10_away : hC := (2, [[(0, .iload_n 0, 1, 0, 0, 0, 0, 0), (1, .iload_n 1, 2, 1, 0, 0, 0, 0), (2, .if_icmp .le 9, 5, 11, 0, 0, 0, 0), (5, .iload_n 0, 6, 0, 0, 0, 0, 0), (6, .iload_n 1, 7, 1, 0, 0, 0, 0), (7, .isub, 8, 0, 0, 0, 0, 0), (8, .goto 6, 11, 14, 0, 0, 0, 0), (11, .iload_n 1, 12, 1, 0, 0, 0, 0), (12, .iload_n 0, 13, 0, 0, 0, 0, 0), (13, .isub, 14, 0, 0, 0, 0, 0), (14, .ireturn, 15, 0, 0, 0, 0, 0)]])
def hc_X10_clear : hC := (2, [[(0, .aload_n 0, 1, 0, 0, 0, 0, 0), (1, .getfield 63, 4, 10, 8, 0, 811, 0), (4, .istore_n 1, 5, 1, 0, 0, 0, 0), (5, .aload_n 0, 6, 0, 0, 0, 0, 0), (6, .iconst 0, 7, 0, 0, 0, 0, 0), (7, .putfield 63, 10, 10, 8, 0, 811, 0), (10, .iload_n 1, 11, 1, 0, 0, 0, 0), (11, .ireturn, 12, 0, 0, 0, 0, 0)]])
def hc_X10_count : hC := (2, [[(0, .iload_n 1, 1, 1, 0, 0, 0, 0), (1, .tableswitch 78 0 5 #[39, 47, 55, 63, 68, 73], 40, 0, 0, 0, 0, 0)], [], [(40, .aload_n 0, 41, 0, 0, 0, 0, 0), (41, .getfield 7, 44, 10, 0, 1, 803, 0), (44, .bipush 16, 46, 0, 0, 0, 0, 16), (46, .iaload, 47, 0, 0, 0, 0, 0), (47, .ireturn, 48, 0, 0, 0, 0, 0)], [(48, .aload_n 0, 49, 0, 0, 0, 0, 0), (49, .getfield 7, 52, 10, 0, 1, 803, 0), (52, .bipush 18, 54, 0, 0, 0, 0, 18), (54, .iaload, 55, 0, 0, 0, 0, 0), (55, .ireturn, 56, 0, 0, 0, 0, 0), (56, .aload_n 0, 57, 0, 0, 0, 0, 0), (57, .getfield 7, 60, 10, 0, 1, 803, 0), (60, .bipush 17, 62, 0, 0, 0, 0, 17), (62, .iaload, 63, 0, 0, 0, 0, 0), (63, .ireturn, 64, 0, 0, 0, 0, 0)], [(64, .aload_n 0, 65, 0, 0, 0, 0, 0), (65, .getfield 116, 68, 10, 24, 0, 827, 0), (68, .ireturn, 69, 0, 0, 0, 0, 0), (69, .aload_n 0, 70, 0, 0, 0, 0, 0), (70, .getfield 63, 73, 10, 8, 0, 811, 0), (73, .ireturn, 74, 0, 0, 0, 0, 0), (74, .aload_n 0, 75, 0, 0, 0, 0, 0), (75, .getfield 113, 78, 10, 3, 0, 806, 0), (78, .ireturn, 79, 0, 0, 0, 0, 0), (79, .iconst (-1), 80, 0, 0, 0, 0, (-1))], [(80, .ireturn, 81, 0, 0, 0, 0, 0)]])
def hc_X10_forget : hC := (2, [[(0, .aload_n 0, 1, 0, 0, 0, 0, 0), (1, .getfield 116, 4, 10, 24, 0, 827, 0), (4, .istore_n 1, 5, 1, 0, 0, 0, 0), (5, .aload_n 0, 6, 0, 0, 0, 0, 0), (6, .iconst 0, 7, 0, 0, 0, 0, 0), (7, .putfield 116, 10, 10, 24, 0, 827, 0), (10, .iload_n 1, 11, 1, 0, 0, 0, 0), (11, .ireturn, 12, 0, 0, 0, 0, 0)]])
def hc_X10_in : hC := (3, [[(0, .iload_n 0, 1, 0, 0, 0, 0, 0), (1, .iload_n 1, 2, 1, 0, 0, 0, 0), (2, .if_icmp .lt 12, 5, 14, 0, 0, 0, 0), (5, .iload_n 0, 6, 0, 0, 0, 0, 0), (6, .iload_n 2, 7, 2, 0, 0, 0, 0), (7, .if_icmp .gt 7, 10, 14, 0, 0, 0, 0), (10, .iconst 1, 11, 0, 0, 0, 0, 1), (11, .goto 4, 14, 15, 0, 0, 0, 0), (14, .iconst 0, 15, 0, 0, 0, 0, 0), (15, .ireturn, 16, 0, 0, 2, 0, 0)]])
def hc_X10_isToldAlready : hC := (2, [[(0, .aload_n 0, 1, 0, 0, 0, 0, 0), (1, .getfield 93, 4, 10, 15, 0, 818, 0), (4, .iload_n 1, 5, 1, 0, 0, 0, 0), (5, .ishr, 6, 0, 0, 0, 0, 0), (6, .iconst 1, 7, 0, 0, 0, 0, 1), (7, .iand, 8, 0, 0, 0, 0, 0), (8, .iconst 1, 9, 0, 0, 0, 0, 1), (9, .if_icmp .ne 7, 12, 16, 0, 0, 0, 0), (12, .iconst 1, 13, 0, 0, 0, 0, 1), (13, .goto 4, 16, 17, 0, 0, 0, 0)], [(16, .iconst 0, 17, 0, 0, 0, 0, 0), (17, .ireturn, 18, 0, 0, 2, 0, 0)]])
def hc_X10_leastOf : hC := (2, [[(0, .iload_n 1, 1, 1, 0, 0, 0, 0), (1, .ifCond .ne 8, 4, 9, 0, 0, 0, 0), (4, .bipush 40, 6, 0, 0, 0, 0, 40), (6, .goto 49, 9, 55, 0, 0, 0, 0), (9, .iload_n 1, 10, 1, 0, 0, 0, 0), (10, .iconst 1, 11, 0, 0, 0, 0, 1), (11, .if_icmp .ne 14, 14, 25, 0, 0, 0, 0), (14, .aload_n 0, 15, 0, 0, 0, 0, 0), (15, .getfield 32, 18, 10, 14, 1, 817, 0)], [(18, .iconst 0, 19, 0, 0, 0, 0, 0), (19, .iaload, 20, 0, 0, 0, 0, 0), (20, .iconst 1, 21, 0, 0, 0, 0, 1), (21, .iadd, 22, 0, 0, 0, 0, 0), (22, .goto 33, 25, 55, 0, 0, 0, 0), (25, .iload_n 1, 26, 1, 0, 0, 0, 0), (26, .iconst 2, 27, 0, 0, 0, 0, 2), (27, .if_icmp .ne 7, 30, 34, 0, 0, 0, 0), (30, .iconst 1, 31, 0, 0, 0, 0, 1), (31, .goto 24, 34, 55, 0, 0, 0, 0)], [(34, .iload_n 1, 35, 1, 0, 0, 0, 0), (35, .iconst 3, 36, 0, 0, 0, 0, 3), (36, .if_icmp .ne 8, 39, 44, 0, 0, 0, 0), (39, .bipush 11, 41, 0, 0, 0, 0, 11), (41, .goto 14, 44, 55, 0, 0, 0, 0), (44, .iload_n 1, 45, 1, 0, 0, 0, 0), (45, .iconst 4, 46, 0, 0, 0, 0, 4), (46, .if_icmp .ne 8, 49, 54, 0, 0, 0, 0)], [(49, .bipush 36, 51, 0, 0, 0, 0, 36), (51, .goto 4, 54, 55, 0, 0, 0, 0), (54, .iconst 1, 55, 0, 0, 0, 0, 1), (55, .ireturn, 56, 0, 0, 0, 0, 0)]])
def hc_X10_mostOf : hC := (1, [[(0, .iload_n 0, 1, 0, 0, 0, 0, 0), (1, .ifCond .ne 8, 4, 9, 0, 0, 0, 0), (4, .bipush 120, 6, 0, 0, 0, 0, 120), (6, .goto 46, 9, 52, 0, 0, 0, 0), (9, .iload_n 0, 10, 0, 0, 0, 0, 0), (10, .iconst 1, 11, 0, 0, 0, 0, 1), (11, .if_icmp .ne 9, 14, 20, 0, 0, 0, 0), (14, .sipush 200, 17, 0, 0, 0, 0, 200)], [(17, .goto 35, 20, 52, 0, 0, 0, 0), (20, .iload_n 0, 21, 0, 0, 0, 0, 0), (21, .iconst 2, 22, 0, 0, 0, 0, 2), (22, .if_icmp .ne 8, 25, 30, 0, 0, 0, 0), (25, .bipush 10, 27, 0, 0, 0, 0, 10), (27, .goto 25, 30, 52, 0, 0, 0, 0), (30, .iload_n 0, 31, 0, 0, 0, 0, 0), (31, .iconst 3, 32, 0, 0, 0, 0, 3)], [(32, .if_icmp .ne 8, 35, 40, 0, 0, 0, 0), (35, .bipush 40, 37, 0, 0, 0, 0, 40), (37, .goto 15, 40, 52, 0, 0, 0, 0), (40, .iload_n 0, 41, 0, 0, 0, 0, 0), (41, .iconst 4, 42, 0, 0, 0, 0, 4), (42, .if_icmp .ne 8, 45, 50, 0, 0, 0, 0), (45, .bipush 108, 47, 0, 0, 0, 0, 108), (47, .goto 5, 50, 52, 0, 0, 0, 0)], [(50, .bipush 9, 52, 0, 0, 0, 0, 9), (52, .ireturn, 53, 0, 0, 0, 0, 0)]])
def hc_X10_notes : hC := (2, [[(0, .aload_n 0, 1, 0, 0, 0, 0, 0), (1, .getfield 113, 4, 10, 3, 0, 806, 0), (4, .bipush 6, 6, 0, 0, 0, 0, 6), (6, .if_icmp .ne 43, 9, 49, 0, 0, 0, 0), (9, .iconst 0, 10, 0, 0, 0, 0, 0), (10, .istore_n 1, 11, 1, 0, 0, 0, 0), (11, .iload_n 1, 12, 1, 0, 0, 0, 0), (12, .sipush 295, 15, 0, 0, 0, 0, 295), (15, .if_icmp .ge 24, 18, 39, 0, 0, 0, 0)], [(18, .aload_n 0, 19, 0, 0, 0, 0, 0), (19, .getfield 16, 22, 10, 2, 1, 805, 0), (22, .iload_n 1, 23, 1, 0, 0, 0, 0), (23, .aload_n 0, 24, 0, 0, 0, 0, 0), (24, .getfield 16, 27, 10, 2, 1, 805, 0), (27, .iload_n 1, 28, 1, 0, 0, 0, 0), (28, .bipush 59, 30, 0, 0, 0, 0, 59), (30, .iadd, 31, 0, 0, 0, 0, 0), (31, .iaload, 32, 0, 0, 0, 0, 0)], [(32, .iastore, 33, 0, 0, 0, 0, 0), (33, .iinc 1 1, 36, 1, 0, 0, 0, 1), (36, .goto (-25), 39, 11, 0, 0, 0, 0), (39, .aload_n 0, 40, 0, 0, 0, 0, 0), (40, .dup, 41, 0, 0, 0, 0, 0), (41, .getfield 113, 44, 10, 3, 0, 806, 0), (44, .iconst 1, 45, 0, 0, 0, 0, 1), (45, .isub, 46, 0, 0, 0, 0, 0), (46, .putfield 113, 49, 10, 3, 0, 806, 0)], [(49, .iconst 0, 50, 0, 0, 0, 0, 0), (50, .istore_n 1, 51, 1, 0, 0, 0, 0), (51, .iload_n 1, 52, 1, 0, 0, 0, 0), (52, .bipush 59, 54, 0, 0, 0, 0, 59), (54, .if_icmp .ge 29, 57, 83, 0, 0, 0, 0), (57, .aload_n 0, 58, 0, 0, 0, 0, 0), (58, .getfield 16, 61, 10, 2, 1, 805, 0), (61, .bipush 59, 63, 0, 0, 0, 0, 59), (63, .aload_n 0, 64, 0, 0, 0, 0, 0)], [(64, .getfield 113, 67, 10, 3, 0, 806, 0), (67, .imul, 68, 0, 0, 0, 0, 0), (68, .iload_n 1, 69, 1, 0, 0, 0, 0), (69, .iadd, 70, 0, 0, 0, 0, 0), (70, .aload_n 0, 71, 0, 0, 0, 0, 0), (71, .getfield 7, 74, 10, 0, 1, 803, 0), (74, .iload_n 1, 75, 1, 0, 0, 0, 0), (75, .iaload, 76, 0, 0, 0, 0, 0), (76, .iastore, 77, 0, 0, 0, 0, 0), (77, .iinc 1 1, 80, 1, 0, 0, 0, 1)], [(80, .goto (-29), 83, 51, 0, 0, 0, 0), (83, .aload_n 0, 84, 0, 0, 0, 0, 0), (84, .dup, 85, 0, 0, 0, 0, 0), (85, .getfield 113, 88, 10, 3, 0, 806, 0), (88, .iconst 1, 89, 0, 0, 0, 0, 1), (89, .iadd, 90, 0, 0, 0, 0, 0), (90, .putfield 113, 93, 10, 3, 0, 806, 0), (93, .return_, 94, 0, 0, 0, 0, 0)]])
def hc_X10_notesSpeed : hC := (2, [[(0, .bipush 39, 2, 0, 0, 0, 0, 39), (2, .istore_n 1, 3, 1, 0, 0, 0, 0), (3, .iload_n 1, 4, 1, 0, 0, 0, 0), (4, .ifCond .le 29, 7, 33, 0, 0, 0, 0), (7, .aload_n 0, 8, 0, 0, 0, 0, 0), (8, .getfield 7, 11, 10, 0, 1, 803, 0), (11, .bipush 19, 13, 0, 0, 0, 0, 19), (13, .iload_n 1, 14, 1, 0, 0, 0, 0), (14, .iadd, 15, 0, 0, 0, 0, 0), (15, .aload_n 0, 16, 0, 0, 0, 0, 0)], [(16, .getfield 7, 19, 10, 0, 1, 803, 0), (19, .bipush 19, 21, 0, 0, 0, 0, 19), (21, .iload_n 1, 22, 1, 0, 0, 0, 0), (22, .iadd, 23, 0, 0, 0, 0, 0), (23, .iconst 1, 24, 0, 0, 0, 0, 1), (24, .isub, 25, 0, 0, 0, 0, 0), (25, .iaload, 26, 0, 0, 0, 0, 0), (26, .iastore, 27, 0, 0, 0, 0, 0), (27, .iinc 1 (-1), 30, 1, 0, 0, 0, (-1)), (30, .goto (-27), 33, 3, 0, 0, 0, 0)], [(33, .aload_n 0, 34, 0, 0, 0, 0, 0), (34, .getfield 7, 37, 10, 0, 1, 803, 0), (37, .bipush 19, 39, 0, 0, 0, 0, 19), (39, .aload_n 0, 40, 0, 0, 0, 0, 0), (40, .getfield 7, 43, 10, 0, 1, 803, 0), (43, .iconst 1, 44, 0, 0, 0, 0, 1), (44, .iaload, 45, 0, 0, 0, 0, 0), (45, .iastore, 46, 0, 0, 0, 0, 0), (46, .aload_n 0, 47, 0, 0, 0, 0, 0), (47, .getfield 7, 50, 10, 0, 1, 803, 0)], [(50, .bipush 18, 52, 0, 0, 0, 0, 18), (52, .dup2, 53, 0, 0, 0, 0, 0), (53, .iaload, 54, 0, 0, 0, 0, 0), (54, .aload_n 0, 55, 0, 0, 0, 0, 0), (55, .getfield 7, 58, 10, 0, 1, 803, 0), (58, .bipush 18, 60, 0, 0, 0, 0, 18), (60, .iaload, 61, 0, 0, 0, 0, 0), (61, .bipush 40, 63, 0, 0, 0, 0, 40), (63, .if_icmp .ge 7, 66, 70, 0, 0, 0, 0)], [(66, .iconst 1, 67, 0, 0, 0, 0, 1), (67, .goto 4, 70, 71, 0, 0, 0, 0), (70, .iconst 0, 71, 0, 0, 0, 0, 0), (71, .iadd, 72, 0, 0, 0, 0, 0), (72, .iastore, 73, 0, 0, 0, 0, 0), (73, .aload_n 0, 74, 0, 0, 0, 0, 0), (74, .getfield 7, 77, 10, 0, 1, 803, 0), (77, .bipush 16, 79, 0, 0, 0, 0, 16), (79, .dup2, 80, 0, 0, 0, 0, 0)], [(80, .iaload, 81, 0, 0, 0, 0, 0), (81, .iconst 1, 82, 0, 0, 0, 0, 1), (82, .iadd, 83, 0, 0, 0, 0, 0), (83, .iastore, 84, 0, 0, 0, 0, 0), (84, .return_, 85, 0, 0, 0, 0, 0)]])
def hc_X10_pitchGoal : hC := (4, [[(0, .aload_n 1, 1, 1, 0, 0, 0, 0), (1, .iconst 0, 2, 0, 0, 0, 0, 0), (2, .iaload, 3, 0, 0, 0, 0, 0), (3, .istore_n 2, 4, 2, 0, 0, 0, 0), (4, .iload_n 2, 5, 2, 0, 0, 0, 0), (5, .iconst 3, 6, 0, 0, 0, 0, 3), (6, .if_icmp .ne 41, 9, 47, 0, 0, 0, 0), (9, .aload_n 1, 10, 1, 0, 0, 0, 0), (10, .iconst 2, 11, 0, 0, 0, 0, 2), (11, .iaload, 12, 0, 0, 0, 0, 0), (12, .aload_n 1, 13, 1, 0, 0, 0, 0), (13, .iconst 1, 14, 0, 0, 0, 0, 1), (14, .iaload, 15, 0, 0, 0, 0, 0), (15, .aload_n 0, 16, 0, 0, 0, 0, 0)], [(16, .getfield 26, 19, 10, 6, 1, 809, 0), (19, .iconst 0, 20, 0, 0, 0, 0, 0), (20, .iaload, 21, 0, 0, 0, 0, 0), (21, .isub, 22, 0, 0, 0, 0, 0), (22, .iconst 4, 23, 0, 0, 0, 0, 4), (23, .idiv, 24, 0, 0, 0, 0, 0), (24, .iadd, 25, 0, 0, 0, 0, 0), (25, .istore_n 3, 26, 3, 0, 0, 0, 0), (26, .iload_n 3, 27, 3, 0, 0, 0, 0), (27, .ifCond .ge 7, 30, 34, 0, 0, 0, 0), (30, .iconst 0, 31, 0, 0, 0, 0, 0), (31, .goto 15, 34, 46, 0, 0, 0, 0)], [(34, .iload_n 3, 35, 3, 0, 0, 0, 0), (35, .bipush 90, 37, 0, 0, 0, 0, 90), (37, .if_icmp .le 8, 40, 45, 0, 0, 0, 0), (40, .bipush 90, 42, 0, 0, 0, 0, 90), (42, .goto 4, 45, 46, 0, 0, 0, 0), (45, .iload_n 3, 46, 3, 0, 0, 0, 0), (46, .ireturn, 47, 0, 0, 0, 0, 0), (47, .iload_n 2, 48, 2, 0, 0, 0, 0)], [(48, .iconst 1, 49, 0, 0, 0, 0, 1), (49, .if_icmp .ne 8, 52, 57, 0, 0, 0, 0), (52, .bipush 20, 54, 0, 0, 0, 0, 20), (54, .goto 14, 57, 68, 0, 0, 0, 0), (57, .iload_n 2, 58, 2, 0, 0, 0, 0), (58, .iconst 2, 59, 0, 0, 0, 0, 2), (59, .if_icmp .ne 7, 62, 66, 0, 0, 0, 0), (62, .iconst 0, 63, 0, 0, 0, 0, 0), (63, .goto 5, 66, 68, 0, 0, 0, 0)], [(66, .bipush 90, 68, 0, 0, 0, 0, 90), (68, .ireturn, 69, 0, 0, 0, 0, 0)]])
def hc_X10_plain : hC := (1, [[(0, .aload_n 0, 1, 0, 0, 0, 0, 0), (1, .getfield 32, 4, 10, 14, 1, 817, 0), (4, .iconst 0, 5, 0, 0, 0, 0, 0), (5, .bipush 100, 7, 0, 0, 0, 0, 100), (7, .iastore, 8, 0, 0, 0, 0, 0), (8, .aload_n 0, 9, 0, 0, 0, 0, 0), (9, .getfield 32, 12, 10, 14, 1, 817, 0), (12, .iconst 1, 13, 0, 0, 0, 0, 1), (13, .sipush 130, 16, 0, 0, 0, 0, 130)], [(16, .iastore, 17, 0, 0, 0, 0, 0), (17, .aload_n 0, 18, 0, 0, 0, 0, 0), (18, .getfield 32, 21, 10, 14, 1, 817, 0), (21, .iconst 2, 22, 0, 0, 0, 0, 2), (22, .iconst 4, 23, 0, 0, 0, 0, 4), (23, .iastore, 24, 0, 0, 0, 0, 0), (24, .aload_n 0, 25, 0, 0, 0, 0, 0), (25, .getfield 32, 28, 10, 14, 1, 817, 0), (28, .iconst 3, 29, 0, 0, 0, 0, 3), (29, .bipush 30, 31, 0, 0, 0, 0, 30), (31, .iastore, 32, 0, 0, 0, 0, 0)], [(32, .aload_n 0, 33, 0, 0, 0, 0, 0), (33, .getfield 32, 36, 10, 14, 1, 817, 0), (36, .iconst 4, 37, 0, 0, 0, 0, 4), (37, .bipush 72, 39, 0, 0, 0, 0, 72), (39, .iastore, 40, 0, 0, 0, 0, 0), (40, .aload_n 0, 41, 0, 0, 0, 0, 0), (41, .getfield 32, 44, 10, 14, 1, 817, 0), (44, .iconst 5, 45, 0, 0, 0, 0, 5), (45, .iconst 3, 46, 0, 0, 0, 0, 3), (46, .iastore, 47, 0, 0, 0, 0, 0), (47, .aload_n 0, 48, 0, 0, 0, 0, 0)], [(48, .iconst 0, 49, 0, 0, 0, 0, 0), (49, .putfield 93, 52, 10, 15, 0, 818, 0), (52, .return_, 53, 0, 0, 0, 0, 0)]])
def hc_X10_record : hC := (2, [[(0, .iload_n 1, 1, 1, 0, 0, 0, 0), (1, .ifCond .ge 5, 4, 6, 0, 0, 0, 0), (4, .iconst (-1), 5, 0, 0, 0, 0, (-1)), (5, .ireturn, 6, 0, 0, 0, 0, 0), (6, .iload_n 1, 7, 1, 0, 0, 0, 0), (7, .aload_n 0, 8, 0, 0, 0, 0, 0), (8, .getfield 7, 11, 10, 0, 1, 803, 0), (11, .bipush 18, 13, 0, 0, 0, 0, 18), (13, .iaload, 14, 0, 0, 0, 0, 0), (14, .if_icmp .ge 15, 17, 29, 0, 0, 0, 0)], [(17, .aload_n 0, 18, 0, 0, 0, 0, 0), (18, .getfield 7, 21, 10, 0, 1, 803, 0), (21, .bipush 19, 23, 0, 0, 0, 0, 19), (23, .iload_n 1, 24, 1, 0, 0, 0, 0), (24, .iadd, 25, 0, 0, 0, 0, 0), (25, .iaload, 26, 0, 0, 0, 0, 0), (26, .goto 5, 29, 31, 0, 0, 0, 0), (29, .bipush (-9), 31, 0, 0, 0, 0, (-9)), (31, .ireturn, 32, 0, 0, 0, 0, 0)]])
def hc_X10_takesOver : hC := (2, [[(0, .iconst 0, 1, 0, 0, 0, 0, 0), (1, .istore_n 1, 2, 1, 0, 0, 0, 0), (2, .iload_n 1, 3, 1, 0, 0, 0, 0), (3, .bipush 6, 5, 0, 0, 0, 0, 6), (5, .if_icmp .ge 21, 8, 26, 0, 0, 0, 0), (8, .aload_n 0, 9, 0, 0, 0, 0, 0), (9, .getfield 26, 12, 10, 6, 1, 809, 0), (12, .iload_n 1, 13, 1, 0, 0, 0, 0), (13, .aload_n 0, 14, 0, 0, 0, 0, 0), (14, .getfield 32, 17, 10, 14, 1, 817, 0)], [(17, .iload_n 1, 18, 1, 0, 0, 0, 0), (18, .iaload, 19, 0, 0, 0, 0, 0), (19, .iastore, 20, 0, 0, 0, 0, 0), (20, .iinc 1 1, 23, 1, 0, 0, 0, 1), (23, .goto (-21), 26, 2, 0, 0, 0, 0), (26, .iconst 0, 27, 0, 0, 0, 0, 0), (27, .istore_n 1, 28, 1, 0, 0, 0, 0), (28, .iload_n 1, 29, 1, 0, 0, 0, 0), (29, .bipush 59, 31, 0, 0, 0, 0, 59), (31, .if_icmp .ge 16, 34, 47, 0, 0, 0, 0)], [(34, .aload_n 0, 35, 0, 0, 0, 0, 0), (35, .getfield 7, 38, 10, 0, 1, 803, 0), (38, .iload_n 1, 39, 1, 0, 0, 0, 0), (39, .iconst 0, 40, 0, 0, 0, 0, 0), (40, .iastore, 41, 0, 0, 0, 0, 0), (41, .iinc 1 1, 44, 1, 0, 0, 0, 1), (44, .goto (-16), 47, 28, 0, 0, 0, 0), (47, .aload_n 0, 48, 0, 0, 0, 0, 0)], [(48, .getfield 7, 51, 10, 0, 1, 803, 0), (51, .iconst 2, 52, 0, 0, 0, 0, 2), (52, .bipush 90, 54, 0, 0, 0, 0, 90), (54, .iastore, 55, 0, 0, 0, 0, 0), (55, .aload_n 0, 56, 0, 0, 0, 0, 0), (56, .getfield 7, 59, 10, 0, 1, 803, 0), (59, .bipush 9, 61, 0, 0, 0, 0, 9), (61, .iconst 1, 62, 0, 0, 0, 0, 1), (62, .iastore, 63, 0, 0, 0, 0, 0), (63, .aload_n 0, 64, 0, 0, 0, 0, 0)], [(64, .getfield 7, 67, 10, 0, 1, 803, 0), (67, .bipush 10, 69, 0, 0, 0, 0, 10), (69, .iconst 1, 70, 0, 0, 0, 0, 1), (70, .iastore, 71, 0, 0, 0, 0, 0), (71, .return_, 72, 0, 0, 0, 0, 0)]])
def hc_X10_towards : hC := (3, [[(0, .iload_n 1, 1, 1, 0, 0, 0, 0), (1, .iload_n 0, 2, 0, 0, 0, 0, 0), (2, .iload_n 2, 3, 2, 0, 0, 0, 0), (3, .iadd, 4, 0, 0, 0, 0, 0), (4, .if_icmp .le 9, 7, 13, 0, 0, 0, 0), (7, .iload_n 0, 8, 0, 0, 0, 0, 0), (8, .iload_n 2, 9, 2, 0, 0, 0, 0), (9, .iadd, 10, 0, 0, 0, 0, 0), (10, .goto 17, 13, 27, 0, 0, 0, 0), (13, .iload_n 1, 14, 1, 0, 0, 0, 0), (14, .iload_n 0, 15, 0, 0, 0, 0, 0), (15, .iload_n 2, 16, 2, 0, 0, 0, 0)], [(16, .isub, 17, 0, 0, 0, 0, 0), (17, .if_icmp .ge 9, 20, 26, 0, 0, 0, 0), (20, .iload_n 0, 21, 0, 0, 0, 0, 0), (21, .iload_n 2, 22, 2, 0, 0, 0, 0), (22, .isub, 23, 0, 0, 0, 0, 0), (23, .goto 4, 26, 27, 0, 0, 0, 0), (26, .iload_n 1, 27, 1, 0, 0, 0, 0), (27, .ireturn, 28, 0, 0, 0, 0, 0)]])
def hc_X10_tries : hC := (2, [[(0, .iconst 0, 1, 0, 0, 0, 0, 0), (1, .istore_n 1, 2, 1, 0, 0, 0, 0), (2, .iload_n 1, 3, 1, 0, 0, 0, 0), (3, .bipush 59, 5, 0, 0, 0, 0, 59), (5, .if_icmp .ge 21, 8, 26, 0, 0, 0, 0), (8, .aload_n 0, 9, 0, 0, 0, 0, 0), (9, .getfield 13, 12, 10, 1, 1, 804, 0), (12, .iload_n 1, 13, 1, 0, 0, 0, 0), (13, .aload_n 0, 14, 0, 0, 0, 0, 0), (14, .getfield 7, 17, 10, 0, 1, 803, 0)], [(17, .iload_n 1, 18, 1, 0, 0, 0, 0), (18, .iaload, 19, 0, 0, 0, 0, 0), (19, .iastore, 20, 0, 0, 0, 0, 0), (20, .iinc 1 1, 23, 1, 0, 0, 0, 1), (23, .goto (-21), 26, 2, 0, 0, 0, 0), (26, .return_, 27, 0, 0, 0, 0, 0)]])
def hc_X10_turns : hC := (3, [[(0, .aload_n 1, 1, 1, 0, 0, 0, 0), (1, .bipush 6, 3, 0, 0, 0, 0, 6), (3, .aload_n 1, 4, 1, 0, 0, 0, 0), (4, .bipush 6, 6, 0, 0, 0, 0, 6), (6, .iaload, 7, 0, 0, 0, 0, 0), (7, .iload_n 2, 8, 2, 0, 0, 0, 0), (8, .iadd, 9, 0, 0, 0, 0, 0), (9, .bipush 36, 11, 0, 0, 0, 0, 36), (11, .iadd, 12, 0, 0, 0, 0, 0), (12, .bipush 36, 14, 0, 0, 0, 0, 36), (14, .irem, 15, 0, 0, 0, 0, 0), (15, .iastore, 16, 0, 0, 0, 0, 0)], [(16, .aload_n 1, 17, 1, 0, 0, 0, 0), (17, .bipush 7, 19, 0, 0, 0, 0, 7), (19, .dup2, 20, 0, 0, 0, 0, 0), (20, .iaload, 21, 0, 0, 0, 0, 0), (21, .iload_n 2, 22, 2, 0, 0, 0, 0), (22, .iadd, 23, 0, 0, 0, 0, 0), (23, .iastore, 24, 0, 0, 0, 0, 0), (24, .return_, 25, 0, 0, 0, 0, 0)]])
def hc_X10_undo : hC := (2, [[(0, .aload_n 0, 1, 0, 0, 0, 0, 0), (1, .getfield 113, 4, 10, 3, 0, 806, 0), (4, .ifCond .ne 6, 7, 10, 0, 0, 0, 0), (7, .bipush (-2), 9, 0, 0, 0, 0, (-2)), (9, .ireturn, 10, 0, 0, 0, 0, 0), (10, .aload_n 0, 11, 0, 0, 0, 0, 0), (11, .dup, 12, 0, 0, 0, 0, 0), (12, .getfield 113, 15, 10, 3, 0, 806, 0), (15, .iconst 1, 16, 0, 0, 0, 0, 1)], [(16, .isub, 17, 0, 0, 0, 0, 0), (17, .putfield 113, 20, 10, 3, 0, 806, 0), (20, .iconst 0, 21, 0, 0, 0, 0, 0), (21, .istore_n 1, 22, 1, 0, 0, 0, 0), (22, .iload_n 1, 23, 1, 0, 0, 0, 0), (23, .bipush 59, 25, 0, 0, 0, 0, 59), (25, .if_icmp .ge 29, 28, 54, 0, 0, 0, 0), (28, .aload_n 0, 29, 0, 0, 0, 0, 0), (29, .getfield 7, 32, 10, 0, 1, 803, 0)], [(32, .iload_n 1, 33, 1, 0, 0, 0, 0), (33, .aload_n 0, 34, 0, 0, 0, 0, 0), (34, .getfield 16, 37, 10, 2, 1, 805, 0), (37, .bipush 59, 39, 0, 0, 0, 0, 59), (39, .aload_n 0, 40, 0, 0, 0, 0, 0), (40, .getfield 113, 43, 10, 3, 0, 806, 0), (43, .imul, 44, 0, 0, 0, 0, 0), (44, .iload_n 1, 45, 1, 0, 0, 0, 0), (45, .iadd, 46, 0, 0, 0, 0, 0), (46, .iaload, 47, 0, 0, 0, 0, 0), (47, .iastore, 48, 0, 0, 0, 0, 0)], [(48, .iinc 1 1, 51, 1, 0, 0, 0, 1), (51, .goto (-29), 54, 22, 0, 0, 0, 0), (54, .aload_n 0, 55, 0, 0, 0, 0, 0), (55, .getfield 113, 58, 10, 3, 0, 806, 0), (58, .ireturn, 59, 0, 0, 0, 0, 0)]])
def hc_X10_unlikeOnes : hC := (4, [[(0, .iconst 0, 1, 0, 0, 0, 0, 0), (1, .istore_n 1, 2, 1, 0, 0, 0, 0), (2, .aload_n 0, 3, 0, 0, 0, 0, 0), (3, .getfield 7, 6, 10, 0, 1, 803, 0), (6, .bipush 18, 8, 0, 0, 0, 0, 18), (8, .iaload, 9, 0, 0, 0, 0, 0), (9, .iconst 1, 10, 0, 0, 0, 0, 1), (10, .isub, 11, 0, 0, 0, 0, 0), (11, .istore_n 2, 12, 2, 0, 0, 0, 0), (12, .iload_n 2, 13, 2, 0, 0, 0, 0), (13, .ifCond .lt 45, 16, 58, 0, 0, 0, 0)], [(16, .aload_n 0, 17, 0, 0, 0, 0, 0), (17, .getfield 7, 20, 10, 0, 1, 803, 0), (20, .bipush 19, 22, 0, 0, 0, 0, 19), (22, .iload_n 2, 23, 2, 0, 0, 0, 0), (23, .iadd, 24, 0, 0, 0, 0, 0), (24, .iaload, 25, 0, 0, 0, 0, 0), (25, .istore_n 3, 26, 3, 0, 0, 0, 0), (26, .iload_n 1, 27, 1, 0, 0, 0, 0), (27, .ifCond .eq 15, 30, 42, 0, 0, 0, 0), (30, .aload_n 0, 31, 0, 0, 0, 0, 0), (31, .getfield 35, 34, 10, 16, 1, 819, 0)], [(34, .iload_n 1, 35, 1, 0, 0, 0, 0), (35, .iconst 1, 36, 0, 0, 0, 0, 1), (36, .isub, 37, 0, 0, 0, 0, 0), (37, .iaload, 38, 0, 0, 0, 0, 0), (38, .iload_n 3, 39, 3, 0, 0, 0, 0), (39, .if_icmp .eq 13, 42, 52, 0, 0, 0, 0), (42, .aload_n 0, 43, 0, 0, 0, 0, 0), (43, .getfield 35, 46, 10, 16, 1, 819, 0), (46, .iload_n 1, 47, 1, 0, 0, 0, 0), (47, .iload_n 3, 48, 3, 0, 0, 0, 0)], [(48, .iastore, 49, 0, 0, 0, 0, 0), (49, .iinc 1 1, 52, 1, 0, 0, 0, 1), (52, .iinc 2 (-1), 55, 2, 0, 0, 0, (-1)), (55, .goto (-43), 58, 12, 0, 0, 0, 0), (58, .iload_n 1, 59, 1, 0, 0, 0, 0), (59, .ireturn, 60, 0, 0, 0, 0, 0)]])
def hc_X10_whichOf : hC := (1, [[(0, .iload_n 0, 1, 0, 0, 0, 0, 0), (1, .tableswitch 75 105 116 #[67, 75, 75, 71, 75, 75, 69, 75, 75, 63, 73, 65], 64, 0, 0, 0, 0, 0)], [], [], [], [(64, .iconst 0, 65, 0, 0, 0, 0, 0), (65, .ireturn, 66, 0, 0, 0, 0, 0), (66, .iconst 1, 67, 0, 0, 0, 0, 1), (67, .ireturn, 68, 0, 0, 0, 0, 0), (68, .iconst 2, 69, 0, 0, 0, 0, 2), (69, .ireturn, 70, 0, 0, 0, 0, 0), (70, .iconst 3, 71, 0, 0, 0, 0, 3), (71, .ireturn, 72, 0, 0, 0, 0, 0), (72, .iconst 4, 73, 0, 0, 0, 0, 4), (73, .ireturn, 74, 0, 0, 0, 0, 0), (74, .iconst 5, 75, 0, 0, 0, 0, 5), (75, .ireturn, 76, 0, 0, 0, 0, 0), (76, .bipush (-9), 78, 0, 0, 0, 0, (-9)), (78, .ireturn, 79, 0, 0, 0, 0, 0)]])
def hc_X1_lose : hC := (1, [[(0, .aload_n 0, 1, 0, 0, 0, 0, 0), (1, .iconst 0, 2, 0, 0, 0, 0, 0), (2, .putfield 18, 5, 1, 2, 0, 313, 0), (5, .return_, 6, 0, 0, 0, 0, 0)]])
def hc_X2_allHalves : hC := (3, [[(0, .iconst 0, 1, 0, 0, 0, 0, 0), (1, .istore_n 1, 2, 1, 0, 0, 0, 0), (2, .iconst 0, 3, 0, 0, 0, 0, 0), (3, .istore_n 2, 4, 2, 0, 0, 0, 0), (4, .iload_n 2, 5, 2, 0, 0, 0, 0), (5, .aload_n 0, 6, 0, 0, 0, 0, 0), (6, .getfield 31, 9, 2, 6, 0, 363, 0), (9, .if_icmp .ge 18, 12, 27, 0, 0, 0, 0), (12, .iload_n 1, 13, 1, 0, 0, 0, 0), (13, .aload_n 0, 14, 0, 0, 0, 0, 0), (14, .getfield 21, 17, 2, 5, 1, 362, 0)], [(17, .iload_n 2, 18, 2, 0, 0, 0, 0), (18, .iaload, 19, 0, 0, 0, 0, 0), (19, .iadd, 20, 0, 0, 0, 0, 0), (20, .istore_n 1, 21, 1, 0, 0, 0, 0), (21, .iinc 2 1, 24, 2, 0, 0, 0, 1), (24, .goto (-20), 27, 4, 0, 0, 0, 0), (27, .iload_n 1, 28, 1, 0, 0, 0, 0), (28, .ireturn, 29, 0, 0, 0, 0, 0)]])
def hc_X2_findTurn : hC := (4, [[(0, .aload_n 0, 1, 0, 0, 0, 0, 0), (1, .getfield 24, 4, 2, 1, 0, 357, 0), (4, .ifCond .le 19, 7, 23, 0, 0, 0, 0), (7, .aload_n 0, 8, 0, 0, 0, 0, 0), (8, .getfield 9, 11, 2, 0, 1, 356, 0), (11, .aload_n 0, 12, 0, 0, 0, 0, 0), (12, .getfield 24, 15, 2, 1, 0, 357, 0), (15, .iconst 1, 16, 0, 0, 0, 0, 1)], [(16, .isub, 17, 0, 0, 0, 0, 0), (17, .iaload, 18, 0, 0, 0, 0, 0), (18, .iload_n 1, 19, 1, 0, 0, 0, 0), (19, .if_icmp .ne 4, 22, 23, 0, 0, 0, 0), (22, .return_, 23, 0, 0, 0, 0, 0), (23, .aload_n 0, 24, 0, 0, 0, 0, 0), (24, .getfield 24, 27, 2, 1, 0, 357, 0), (27, .iconst 1, 28, 0, 0, 0, 0, 1), (28, .if_icmp .le 73, 31, 101, 0, 0, 0, 0), (31, .aload_n 0, 32, 0, 0, 0, 0, 0)], [(32, .getfield 9, 35, 2, 0, 1, 356, 0), (35, .aload_n 0, 36, 0, 0, 0, 0, 0), (36, .getfield 24, 39, 2, 1, 0, 357, 0), (39, .iconst 1, 40, 0, 0, 0, 0, 1), (40, .isub, 41, 0, 0, 0, 0, 0), (41, .iaload, 42, 0, 0, 0, 0, 0), (42, .aload_n 0, 43, 0, 0, 0, 0, 0), (43, .getfield 9, 46, 2, 0, 1, 356, 0), (46, .aload_n 0, 47, 0, 0, 0, 0, 0), (47, .getfield 24, 50, 2, 1, 0, 357, 0)], [(50, .iconst 2, 51, 0, 0, 0, 0, 2), (51, .isub, 52, 0, 0, 0, 0, 0), (52, .iaload, 53, 0, 0, 0, 0, 0), (53, .if_icmp .le 7, 56, 60, 0, 0, 0, 0), (56, .iconst 1, 57, 0, 0, 0, 0, 1), (57, .goto 4, 60, 61, 0, 0, 0, 0), (60, .iconst 0, 61, 0, 0, 0, 0, 0), (61, .istore_n 2, 62, 2, 0, 0, 0, 0), (62, .iload_n 1, 63, 1, 0, 0, 0, 0), (63, .aload_n 0, 64, 0, 0, 0, 0, 0)], [(64, .getfield 9, 67, 2, 0, 1, 356, 0), (67, .aload_n 0, 68, 0, 0, 0, 0, 0), (68, .getfield 24, 71, 2, 1, 0, 357, 0), (71, .iconst 1, 72, 0, 0, 0, 0, 1), (72, .isub, 73, 0, 0, 0, 0, 0), (73, .iaload, 74, 0, 0, 0, 0, 0), (74, .if_icmp .le 7, 77, 81, 0, 0, 0, 0), (77, .iconst 1, 78, 0, 0, 0, 0, 1), (78, .goto 4, 81, 82, 0, 0, 0, 0)], [(81, .iconst 0, 82, 0, 0, 0, 0, 0), (82, .istore_n 3, 83, 3, 0, 0, 0, 0), (83, .iload_n 2, 84, 2, 0, 0, 0, 0), (84, .iload_n 3, 85, 3, 0, 0, 0, 0), (85, .if_icmp .ne 16, 88, 101, 0, 0, 0, 0), (88, .aload_n 0, 89, 0, 0, 0, 0, 0), (89, .getfield 9, 92, 2, 0, 1, 356, 0), (92, .aload_n 0, 93, 0, 0, 0, 0, 0), (93, .getfield 24, 96, 2, 1, 0, 357, 0)], [(96, .iconst 1, 97, 0, 0, 0, 0, 1), (97, .isub, 98, 0, 0, 0, 0, 0), (98, .iload_n 1, 99, 1, 0, 0, 0, 0), (99, .iastore, 100, 0, 0, 0, 0, 0), (100, .return_, 101, 0, 0, 0, 0, 0), (101, .aload_n 0, 102, 0, 0, 0, 0, 0), (102, .getfield 24, 105, 2, 1, 0, 357, 0), (105, .bipush 40, 107, 0, 0, 0, 0, 40), (107, .if_icmp .ge 23, 110, 130, 0, 0, 0, 0), (110, .aload_n 0, 111, 0, 0, 0, 0, 0), (111, .getfield 9, 114, 2, 0, 1, 356, 0)], [(114, .aload_n 0, 115, 0, 0, 0, 0, 0), (115, .getfield 24, 118, 2, 1, 0, 357, 0), (118, .iload_n 1, 119, 1, 0, 0, 0, 0), (119, .iastore, 120, 0, 0, 0, 0, 0), (120, .aload_n 0, 121, 0, 0, 0, 0, 0), (121, .dup, 122, 0, 0, 0, 0, 0), (122, .getfield 24, 125, 2, 1, 0, 357, 0), (125, .iconst 1, 126, 0, 0, 0, 0, 1), (126, .iadd, 127, 0, 0, 0, 0, 0), (127, .putfield 24, 130, 2, 1, 0, 357, 0)], [(130, .return_, 131, 0, 0, 0, 0, 0)]])
def hc_X2_placeOf : hC := (3, [[(0, .iconst 0, 1, 0, 0, 0, 0, 0), (1, .istore_n 2, 2, 2, 0, 0, 0, 0), (2, .iload_n 2, 3, 2, 0, 0, 0, 0), (3, .aload_n 0, 4, 0, 0, 0, 0, 0), (4, .getfield 31, 7, 2, 6, 0, 363, 0), (7, .if_icmp .ge 19, 10, 26, 0, 0, 0, 0), (10, .aload_n 0, 11, 0, 0, 0, 0, 0), (11, .getfield 18, 14, 2, 4, 1, 361, 0), (14, .iload_n 2, 15, 2, 0, 0, 0, 0), (15, .iaload, 16, 0, 0, 0, 0, 0)], [(16, .iload_n 1, 17, 1, 0, 0, 0, 0), (17, .if_icmp .eq 9, 20, 26, 0, 0, 0, 0), (20, .iinc 2 1, 23, 2, 0, 0, 0, 1), (23, .goto (-21), 26, 2, 0, 0, 0, 0), (26, .iload_n 2, 27, 2, 0, 0, 0, 0), (27, .ireturn, 28, 0, 0, 0, 0, 0)]])
def hc_X3_isTold : hC := (2, [[(0, .aload_n 0, 1, 0, 0, 0, 0, 0), (1, .getfield 25, 4, 3, 3, 0, 179, 0), (4, .iload_n 1, 5, 1, 0, 0, 0, 0), (5, .ishr, 6, 0, 0, 0, 0, 0), (6, .iconst 1, 7, 0, 0, 0, 0, 1), (7, .iand, 8, 0, 0, 0, 0, 0), (8, .iconst 1, 9, 0, 0, 0, 0, 1), (9, .if_icmp .ne 7, 12, 16, 0, 0, 0, 0), (12, .iconst 1, 13, 0, 0, 0, 0, 1), (13, .goto 4, 16, 17, 0, 0, 0, 0)], [(16, .iconst 0, 17, 0, 0, 0, 0, 0), (17, .ireturn, 18, 0, 0, 2, 0, 0)]])
def hc_X3_settingOf : hC := (1, [[(0, .iload_n 0, 1, 0, 0, 0, 0, 0), (1, .tableswitch 75 105 116 #[67, 75, 75, 71, 75, 75, 69, 75, 75, 63, 73, 65], 64, 0, 0, 0, 0, 0)], [], [], [], [(64, .iconst 0, 65, 0, 0, 0, 0, 0), (65, .ireturn, 66, 0, 0, 0, 0, 0), (66, .iconst 1, 67, 0, 0, 0, 0, 1), (67, .ireturn, 68, 0, 0, 0, 0, 0), (68, .iconst 2, 69, 0, 0, 0, 0, 2), (69, .ireturn, 70, 0, 0, 0, 0, 0), (70, .iconst 3, 71, 0, 0, 0, 0, 3), (71, .ireturn, 72, 0, 0, 0, 0, 0), (72, .iconst 4, 73, 0, 0, 0, 0, 4), (73, .ireturn, 74, 0, 0, 0, 0, 0), (74, .iconst 5, 75, 0, 0, 0, 0, 5), (75, .ireturn, 76, 0, 0, 0, 0, 0), (76, .iconst (-1), 77, 0, 0, 0, 0, (-1)), (77, .ireturn, 78, 0, 0, 0, 0, 0)]])
def hc_X3_takesEnd : hC := (2, [[(0, .iload_n 1, 1, 1, 0, 0, 0, 0), (1, .bipush 59, 3, 0, 0, 0, 0, 59), (3, .if_icmp .eq 5, 6, 8, 0, 0, 0, 0), (6, .iconst 0, 7, 0, 0, 0, 0, 0), (7, .ireturn, 8, 0, 0, 2, 0, 0), (8, .aload_n 0, 9, 0, 0, 0, 0, 0), (9, .dup, 10, 0, 0, 0, 0, 0), (10, .getfield 28, 13, 3, 4, 0, 180, 0), (13, .iconst 1, 14, 0, 0, 0, 0, 1), (14, .iadd, 15, 0, 0, 0, 0, 0), (15, .putfield 28, 18, 3, 4, 0, 180, 0)], [(18, .aload_n 0, 19, 0, 0, 0, 0, 0), (19, .iconst 0, 20, 0, 0, 0, 0, 0), (20, .putfield 21, 23, 3, 1, 0, 177, 0), (23, .iconst 1, 24, 0, 0, 0, 0, 1), (24, .ireturn, 25, 0, 0, 2, 0, 0)]])
def hc_X4_add : hC := (4, [[(0, .aload_n 0, 1, 0, 0, 0, 0, 0), (1, .getfield 24, 4, 4, 4, 0, 336, 0), (4, .ifCond .lt 52, 7, 56, 0, 0, 0, 0), (7, .aload_n 0, 8, 0, 0, 0, 0, 0), (8, .getfield 24, 11, 4, 4, 0, 336, 0), (11, .bipush 6, 13, 0, 0, 0, 0, 6), (13, .if_icmp .ge 43, 16, 56, 0, 0, 0, 0)], [(16, .aload_n 0, 17, 0, 0, 0, 0, 0), (17, .getfield 9, 20, 4, 0, 1, 328, 0), (20, .aload_n 0, 21, 0, 0, 0, 0, 0), (21, .getfield 24, 24, 4, 4, 0, 336, 0), (24, .iload_n 1, 25, 1, 0, 0, 0, 0), (25, .iastore, 26, 0, 0, 0, 0, 0), (26, .aload_n 0, 27, 0, 0, 0, 0, 0), (27, .getfield 15, 30, 4, 1, 1, 330, 0), (30, .aload_n 0, 31, 0, 0, 0, 0, 0), (31, .getfield 24, 34, 4, 4, 0, 336, 0)], [(34, .iload_n 2, 35, 2, 0, 0, 0, 0), (35, .iastore, 36, 0, 0, 0, 0, 0), (36, .aload_n 0, 37, 0, 0, 0, 0, 0), (37, .getfield 18, 40, 4, 2, 1, 332, 0), (40, .aload_n 0, 41, 0, 0, 0, 0, 0), (41, .getfield 24, 44, 4, 4, 0, 336, 0), (44, .iload_n 3, 45, 3, 0, 0, 0, 0), (45, .iastore, 46, 0, 0, 0, 0, 0), (46, .aload_n 0, 47, 0, 0, 0, 0, 0), (47, .dup, 48, 0, 0, 0, 0, 0)], [(48, .getfield 24, 51, 4, 4, 0, 336, 0), (51, .iconst 1, 52, 0, 0, 0, 0, 1), (52, .iadd, 53, 0, 0, 0, 0, 0), (53, .putfield 24, 56, 4, 4, 0, 336, 0), (56, .return_, 57, 0, 0, 0, 0, 0)]])
def hc_X5_become : hC := (2, [[(0, .aload_n 0, 1, 0, 0, 0, 0, 0), (1, .aload_n 1, 2, 1, 0, 0, 0, 0), (2, .getfield 14, 5, 5, 0, 0, 124, 0), (5, .putfield 14, 8, 5, 0, 0, 124, 0), (8, .aload_n 0, 9, 0, 0, 0, 0, 0), (9, .aload_n 1, 10, 1, 0, 0, 0, 0), (10, .getfield 18, 13, 5, 1, 0, 127, 0), (13, .putfield 18, 16, 5, 1, 0, 127, 0)], [(16, .aload_n 0, 17, 0, 0, 0, 0, 0), (17, .aload_n 1, 18, 1, 0, 0, 0, 0), (18, .getfield 21, 21, 5, 2, 0, 130, 0), (21, .putfield 21, 24, 5, 2, 0, 130, 0), (24, .aload_n 0, 25, 0, 0, 0, 0, 0), (25, .aload_n 1, 26, 1, 0, 0, 0, 0), (26, .getfield 24, 29, 5, 3, 0, 132, 0), (29, .putfield 24, 32, 5, 3, 0, 132, 0)], [(32, .aload_n 0, 33, 0, 0, 0, 0, 0), (33, .aload_n 1, 34, 1, 0, 0, 0, 0), (34, .getfield 27, 37, 5, 4, 0, 134, 0), (37, .putfield 27, 40, 5, 4, 0, 134, 0), (40, .aload_n 0, 41, 0, 0, 0, 0, 0), (41, .aload_n 1, 42, 1, 0, 0, 0, 0), (42, .getfield 30, 45, 5, 5, 0, 136, 0), (45, .putfield 30, 48, 5, 5, 0, 136, 0)], [(48, .return_, 49, 0, 0, 0, 0, 0)]])
def hc_X5_put : hC := (3, [[(0, .iload_n 1, 1, 1, 0, 0, 0, 0), (1, .tableswitch 75 0 4 #[35, 43, 51, 59, 67], 36, 0, 0, 0, 0, 0)], [], [(36, .aload_n 0, 37, 0, 0, 0, 0, 0), (37, .iload_n 2, 38, 2, 0, 0, 0, 0), (38, .putfield 14, 41, 5, 0, 0, 124, 0), (41, .goto 40, 44, 81, 0, 0, 0, 0), (44, .aload_n 0, 45, 0, 0, 0, 0, 0), (45, .iload_n 2, 46, 2, 0, 0, 0, 0), (46, .putfield 18, 49, 5, 1, 0, 127, 0)], [(49, .goto 32, 52, 81, 0, 0, 0, 0), (52, .aload_n 0, 53, 0, 0, 0, 0, 0), (53, .iload_n 2, 54, 2, 0, 0, 0, 0), (54, .putfield 21, 57, 5, 2, 0, 130, 0), (57, .goto 24, 60, 81, 0, 0, 0, 0), (60, .aload_n 0, 61, 0, 0, 0, 0, 0), (61, .iload_n 2, 62, 2, 0, 0, 0, 0), (62, .putfield 24, 65, 5, 3, 0, 132, 0)], [(65, .goto 16, 68, 81, 0, 0, 0, 0), (68, .aload_n 0, 69, 0, 0, 0, 0, 0), (69, .iload_n 2, 70, 2, 0, 0, 0, 0), (70, .putfield 27, 73, 5, 4, 0, 134, 0), (73, .goto 8, 76, 81, 0, 0, 0, 0), (76, .aload_n 0, 77, 0, 0, 0, 0, 0), (77, .iload_n 2, 78, 2, 0, 0, 0, 0), (78, .putfield 30, 81, 5, 5, 0, 136, 0)], [(81, .return_, 82, 0, 0, 0, 0, 0)]])
def hc_X5_startAnew : hC := (1, [[(0, .aload_n 0, 1, 0, 0, 0, 0, 0), (1, .bipush 100, 3, 0, 0, 0, 0, 100), (3, .putfield 14, 6, 5, 0, 0, 124, 0), (6, .aload_n 0, 7, 0, 0, 0, 0, 0), (7, .sipush 130, 10, 0, 0, 0, 0, 130), (10, .putfield 18, 13, 5, 1, 0, 127, 0), (13, .aload_n 0, 14, 0, 0, 0, 0, 0), (14, .iconst 4, 15, 0, 0, 0, 0, 4), (15, .putfield 21, 18, 5, 2, 0, 130, 0)], [(18, .aload_n 0, 19, 0, 0, 0, 0, 0), (19, .bipush 30, 21, 0, 0, 0, 0, 30), (21, .putfield 24, 24, 5, 3, 0, 132, 0), (24, .aload_n 0, 25, 0, 0, 0, 0, 0), (25, .bipush 72, 27, 0, 0, 0, 0, 72), (27, .putfield 27, 30, 5, 4, 0, 134, 0), (30, .aload_n 0, 31, 0, 0, 0, 0, 0), (31, .iconst 3, 32, 0, 0, 0, 0, 3)], [(32, .putfield 30, 35, 5, 5, 0, 136, 0), (35, .return_, 36, 0, 0, 0, 0, 0)]])
def hc_X5_tell : hC := (2, [[(0, .iload_n 1, 1, 1, 0, 0, 0, 0), (1, .tableswitch 60 0 4 #[35, 40, 45, 50, 55], 36, 0, 0, 0, 0, 0)], [], [(36, .aload_n 0, 37, 0, 0, 0, 0, 0), (37, .getfield 14, 40, 5, 0, 0, 124, 0), (40, .ireturn, 41, 0, 0, 0, 0, 0), (41, .aload_n 0, 42, 0, 0, 0, 0, 0), (42, .getfield 18, 45, 5, 1, 0, 127, 0), (45, .ireturn, 46, 0, 0, 0, 0, 0), (46, .aload_n 0, 47, 0, 0, 0, 0, 0), (47, .getfield 21, 50, 5, 2, 0, 130, 0)], [(50, .ireturn, 51, 0, 0, 0, 0, 0), (51, .aload_n 0, 52, 0, 0, 0, 0, 0), (52, .getfield 24, 55, 5, 3, 0, 132, 0), (55, .ireturn, 56, 0, 0, 0, 0, 0), (56, .aload_n 0, 57, 0, 0, 0, 0, 0), (57, .getfield 27, 60, 5, 4, 0, 134, 0), (60, .ireturn, 61, 0, 0, 0, 0, 0), (61, .aload_n 0, 62, 0, 0, 0, 0, 0), (62, .getfield 30, 65, 5, 5, 0, 136, 0)], [(65, .ireturn, 66, 0, 0, 0, 0, 0)]])
def hc_X6_append : hC := (2, [[(0, .aload_n 0, 1, 0, 0, 0, 0, 0), (1, .getfield 15, 4, 6, 1, 0, 158, 0), (4, .ifCond .lt 35, 7, 39, 0, 0, 0, 0), (7, .aload_n 0, 8, 0, 0, 0, 0, 0), (8, .getfield 15, 11, 6, 1, 0, 158, 0), (11, .aload_n 0, 12, 0, 0, 0, 0, 0), (12, .getfield 9, 15, 6, 0, 1, 157, 0), (15, .arraylength, 16, 0, 0, 0, 0, 0)], [(16, .if_icmp .ge 23, 19, 39, 0, 0, 0, 0), (19, .aload_n 0, 20, 0, 0, 0, 0, 0), (20, .getfield 9, 23, 6, 0, 1, 157, 0), (23, .aload_n 0, 24, 0, 0, 0, 0, 0), (24, .getfield 15, 27, 6, 1, 0, 158, 0), (27, .iload_n 1, 28, 1, 0, 0, 0, 0), (28, .iastore, 29, 0, 0, 0, 0, 0), (29, .aload_n 0, 30, 0, 0, 0, 0, 0), (30, .dup, 31, 0, 0, 0, 0, 0), (31, .getfield 15, 34, 6, 1, 0, 158, 0)], [(34, .iconst 1, 35, 0, 0, 0, 0, 1), (35, .iadd, 36, 0, 0, 0, 0, 0), (36, .putfield 15, 39, 6, 1, 0, 158, 0), (39, .return_, 40, 0, 0, 0, 0, 0)]])
def hc_X6_letterAt : hC := (2, [[(0, .iload_n 1, 1, 1, 0, 0, 0, 0), (1, .ifCond .lt 29, 4, 30, 0, 0, 0, 0), (4, .iload_n 1, 5, 1, 0, 0, 0, 0), (5, .aload_n 0, 6, 0, 0, 0, 0, 0), (6, .getfield 15, 9, 6, 1, 0, 158, 0), (9, .if_icmp .ge 21, 12, 30, 0, 0, 0, 0), (12, .iload_n 1, 13, 1, 0, 0, 0, 0), (13, .aload_n 0, 14, 0, 0, 0, 0, 0), (14, .getfield 9, 17, 6, 0, 1, 157, 0)], [(17, .arraylength, 18, 0, 0, 0, 0, 0), (18, .if_icmp .ge 12, 21, 30, 0, 0, 0, 0), (21, .aload_n 0, 22, 0, 0, 0, 0, 0), (22, .getfield 9, 25, 6, 0, 1, 157, 0), (25, .iload_n 1, 26, 1, 0, 0, 0, 0), (26, .iaload, 27, 0, 0, 0, 0, 0), (27, .goto 4, 30, 31, 0, 0, 0, 0), (30, .iconst (-1), 31, 0, 0, 0, 0, (-1)), (31, .ireturn, 32, 0, 0, 0, 0, 0)]])
def hc_X7_startAnew : hC := (1, [[(0, .aload_n 0, 1, 0, 0, 0, 0, 0), (1, .iconst 0, 2, 0, 0, 0, 0, 0), (2, .putfield 15, 5, 7, 1, 0, 274, 0), (5, .aload_n 0, 6, 0, 0, 0, 0, 0), (6, .iconst 0, 7, 0, 0, 0, 0, 0), (7, .putfield 19, 10, 7, 2, 0, 275, 0), (10, .return_, 11, 0, 0, 0, 0, 0)]])
def hc_X8_ahead : hC := (1, [[(0, .aload_n 0, 1, 0, 0, 0, 0, 0), (1, .getfield 30, 4, 8, 5, 0, 218, 0), (4, .aload_n 0, 5, 0, 0, 0, 0, 0), (5, .getfield 33, 8, 8, 6, 0, 220, 0), (8, .if_icmp .ge 18, 11, 26, 0, 0, 0, 0), (11, .aload_n 0, 12, 0, 0, 0, 0, 0), (12, .getfield 30, 15, 8, 5, 0, 218, 0), (15, .aload_n 0, 16, 0, 0, 0, 0, 0)], [(16, .getfield 33, 19, 8, 6, 0, 220, 0), (19, .isub, 20, 0, 0, 0, 0, 0), (20, .bipush 36, 22, 0, 0, 0, 0, 36), (22, .iadd, 23, 0, 0, 0, 0, 0), (23, .goto 12, 26, 35, 0, 0, 0, 0), (26, .aload_n 0, 27, 0, 0, 0, 0, 0), (27, .getfield 30, 30, 8, 5, 0, 218, 0), (30, .aload_n 0, 31, 0, 0, 0, 0, 0), (31, .getfield 33, 34, 8, 6, 0, 220, 0)], [(34, .isub, 35, 0, 0, 0, 0, 0), (35, .ireturn, 36, 0, 0, 0, 0, 0)]])
def hc_X8_become : hC := (2, [[(0, .aload_n 0, 1, 0, 0, 0, 0, 0), (1, .aload_n 1, 2, 1, 0, 0, 0, 0), (2, .getfield 14, 5, 8, 0, 0, 208, 0), (5, .putfield 14, 8, 8, 0, 0, 208, 0), (8, .aload_n 0, 9, 0, 0, 0, 0, 0), (9, .aload_n 1, 10, 1, 0, 0, 0, 0), (10, .getfield 18, 13, 8, 1, 0, 211, 0), (13, .putfield 18, 16, 8, 1, 0, 211, 0)], [(16, .aload_n 0, 17, 0, 0, 0, 0, 0), (17, .aload_n 1, 18, 1, 0, 0, 0, 0), (18, .getfield 21, 21, 8, 2, 0, 214, 0), (21, .putfield 21, 24, 8, 2, 0, 214, 0), (24, .aload_n 0, 25, 0, 0, 0, 0, 0), (25, .aload_n 1, 26, 1, 0, 0, 0, 0), (26, .getfield 24, 29, 8, 3, 0, 215, 0), (29, .putfield 24, 32, 8, 3, 0, 215, 0)], [(32, .aload_n 0, 33, 0, 0, 0, 0, 0), (33, .aload_n 1, 34, 1, 0, 0, 0, 0), (34, .getfield 27, 37, 8, 4, 0, 216, 0), (37, .putfield 27, 40, 8, 4, 0, 216, 0), (40, .aload_n 0, 41, 0, 0, 0, 0, 0), (41, .aload_n 1, 42, 1, 0, 0, 0, 0), (42, .getfield 30, 45, 8, 5, 0, 218, 0), (45, .putfield 30, 48, 8, 5, 0, 218, 0)], [(48, .aload_n 0, 49, 0, 0, 0, 0, 0), (49, .aload_n 1, 50, 1, 0, 0, 0, 0), (50, .getfield 33, 53, 8, 6, 0, 220, 0), (53, .putfield 33, 56, 8, 6, 0, 220, 0), (56, .aload_n 0, 57, 0, 0, 0, 0, 0), (57, .aload_n 1, 58, 1, 0, 0, 0, 0), (58, .getfield 36, 61, 8, 7, 0, 222, 0), (61, .putfield 36, 64, 8, 7, 0, 222, 0)], [(64, .aload_n 0, 65, 0, 0, 0, 0, 0), (65, .aload_n 1, 66, 1, 0, 0, 0, 0), (66, .getfield 39, 69, 8, 8, 0, 223, 0), (69, .putfield 39, 72, 8, 8, 0, 223, 0), (72, .aload_n 0, 73, 0, 0, 0, 0, 0), (73, .aload_n 1, 74, 1, 0, 0, 0, 0), (74, .getfield 42, 77, 8, 9, 0, 225, 0), (77, .putfield 42, 80, 8, 9, 2, 225, 0)], [(80, .aload_n 0, 81, 0, 0, 0, 0, 0), (81, .aload_n 1, 82, 1, 0, 0, 0, 0), (82, .getfield 46, 85, 8, 10, 0, 227, 0), (85, .putfield 46, 88, 8, 10, 2, 227, 0), (88, .aload_n 0, 89, 0, 0, 0, 0, 0), (89, .aload_n 1, 90, 1, 0, 0, 0, 0), (90, .getfield 49, 93, 8, 11, 0, 229, 0), (93, .putfield 49, 96, 8, 11, 0, 229, 0)], [(96, .aload_n 0, 97, 0, 0, 0, 0, 0), (97, .aload_n 1, 98, 1, 0, 0, 0, 0), (98, .getfield 52, 101, 8, 12, 0, 230, 0), (101, .putfield 52, 104, 8, 12, 0, 230, 0), (104, .aload_n 0, 105, 0, 0, 0, 0, 0), (105, .aload_n 1, 106, 1, 0, 0, 0, 0), (106, .getfield 55, 109, 8, 13, 0, 231, 0), (109, .putfield 55, 112, 8, 13, 0, 231, 0)], [(112, .aload_n 0, 113, 0, 0, 0, 0, 0), (113, .aload_n 1, 114, 1, 0, 0, 0, 0), (114, .getfield 58, 117, 8, 14, 0, 232, 0), (117, .putfield 58, 120, 8, 14, 0, 232, 0), (120, .aload_n 0, 121, 0, 0, 0, 0, 0), (121, .aload_n 1, 122, 1, 0, 0, 0, 0), (122, .getfield 61, 125, 8, 15, 0, 233, 0), (125, .putfield 61, 128, 8, 15, 2, 233, 0)], [(128, .return_, 129, 0, 0, 0, 0, 0)]])
def hc_X8_drag : hC := (1, [[(0, .aload_n 0, 1, 0, 0, 0, 0, 0), (1, .getfield 18, 4, 8, 1, 0, 211, 0), (4, .ifCond .ne 7, 7, 11, 0, 0, 0, 0), (7, .iconst 0, 8, 0, 0, 0, 0, 0), (8, .goto 12, 11, 20, 0, 0, 0, 0), (11, .aload_n 0, 12, 0, 0, 0, 0, 0), (12, .getfield 18, 15, 8, 1, 0, 211, 0), (15, .bipush 10, 17, 0, 0, 0, 0, 10)], [(17, .idiv, 18, 0, 0, 0, 0, 0), (18, .iconst 1, 19, 0, 0, 0, 0, 1), (19, .iadd, 20, 0, 0, 0, 0, 0), (20, .ireturn, 21, 0, 0, 0, 0, 0)]])
def hc_X8_isWound : hC := (2, [[(0, .aload_n 0, 1, 0, 0, 0, 0, 0), (1, .getfield 36, 4, 8, 7, 0, 222, 0), (4, .iload_n 1, 5, 1, 0, 0, 0, 0), (5, .if_icmp .ge 12, 8, 17, 0, 0, 0, 0), (8, .aload_n 0, 9, 0, 0, 0, 0, 0), (9, .getfield 36, 12, 8, 7, 0, 222, 0), (12, .iload_n 1, 13, 1, 0, 0, 0, 0), (13, .ineg, 14, 0, 0, 0, 0, 0), (14, .if_icmp .gt 7, 17, 21, 0, 0, 0, 0)], [(17, .iconst 1, 18, 0, 0, 0, 0, 1), (18, .goto 4, 21, 22, 0, 0, 0, 0), (21, .iconst 0, 22, 0, 0, 0, 0, 0), (22, .ireturn, 23, 0, 0, 2, 0, 0)]])
def hc_X8_startAnew : hC := (1, [[(0, .aload_n 0, 1, 0, 0, 0, 0, 0), (1, .iconst 0, 2, 0, 0, 0, 0, 0), (2, .putfield 14, 5, 8, 0, 0, 208, 0), (5, .aload_n 0, 6, 0, 0, 0, 0, 0), (6, .iconst 0, 7, 0, 0, 0, 0, 0), (7, .putfield 18, 10, 8, 1, 0, 211, 0), (10, .aload_n 0, 11, 0, 0, 0, 0, 0), (11, .bipush 90, 13, 0, 0, 0, 0, 90), (13, .putfield 21, 16, 8, 2, 0, 214, 0)], [(16, .aload_n 0, 17, 0, 0, 0, 0, 0), (17, .iconst 0, 18, 0, 0, 0, 0, 0), (18, .putfield 24, 21, 8, 3, 0, 215, 0), (21, .aload_n 0, 22, 0, 0, 0, 0, 0), (22, .iconst 0, 23, 0, 0, 0, 0, 0), (23, .putfield 27, 26, 8, 4, 0, 216, 0), (26, .aload_n 0, 27, 0, 0, 0, 0, 0), (27, .iconst 0, 28, 0, 0, 0, 0, 0), (28, .putfield 30, 31, 8, 5, 0, 218, 0), (31, .aload_n 0, 32, 0, 0, 0, 0, 0)], [(32, .iconst 0, 33, 0, 0, 0, 0, 0), (33, .putfield 33, 36, 8, 6, 0, 220, 0), (36, .aload_n 0, 37, 0, 0, 0, 0, 0), (37, .iconst 0, 38, 0, 0, 0, 0, 0), (38, .putfield 36, 41, 8, 7, 0, 222, 0), (41, .aload_n 0, 42, 0, 0, 0, 0, 0), (42, .iconst 0, 43, 0, 0, 0, 0, 0), (43, .putfield 39, 46, 8, 8, 0, 223, 0), (46, .aload_n 0, 47, 0, 0, 0, 0, 0), (47, .iconst 1, 48, 0, 0, 0, 0, 1)], [(48, .putfield 42, 51, 8, 9, 2, 225, 0), (51, .aload_n 0, 52, 0, 0, 0, 0, 0), (52, .iconst 1, 53, 0, 0, 0, 0, 1), (53, .putfield 46, 56, 8, 10, 2, 227, 0), (56, .aload_n 0, 57, 0, 0, 0, 0, 0), (57, .iconst 0, 58, 0, 0, 0, 0, 0), (58, .putfield 49, 61, 8, 11, 0, 229, 0), (61, .aload_n 0, 62, 0, 0, 0, 0, 0), (62, .iconst 0, 63, 0, 0, 0, 0, 0), (63, .putfield 52, 66, 8, 12, 0, 230, 0)], [(66, .aload_n 0, 67, 0, 0, 0, 0, 0), (67, .iconst 0, 68, 0, 0, 0, 0, 0), (68, .putfield 55, 71, 8, 13, 0, 231, 0), (71, .aload_n 0, 72, 0, 0, 0, 0, 0), (72, .iconst 0, 73, 0, 0, 0, 0, 0), (73, .putfield 58, 76, 8, 14, 0, 232, 0), (76, .aload_n 0, 77, 0, 0, 0, 0, 0), (77, .iconst 0, 78, 0, 0, 0, 0, 0), (78, .putfield 61, 81, 8, 15, 2, 233, 0)], [(81, .return_, 82, 0, 0, 0, 0, 0)]])
def hc_X8_torqueAim : hC := (2, [[(0, .aload_n 0, 1, 0, 0, 0, 0, 0), (1, .getfield 14, 4, 8, 0, 0, 208, 0), (4, .lookupswitch 42 #[(2, 28), (3, 35)], 32, 0, 0, 0, 0, 0)], [], [(32, .aload_n 0, 33, 0, 0, 0, 0, 0), (33, .getfield 18, 36, 8, 1, 0, 211, 0), (36, .iconst 2, 37, 0, 0, 0, 0, 2), (37, .idiv, 38, 0, 0, 0, 0, 0), (38, .ireturn, 39, 0, 0, 0, 0, 0), (39, .aload_n 1, 40, 1, 0, 0, 0, 0), (40, .getfield 123, 43, 5, 0, 0, 126, 0), (43, .iconst 2, 44, 0, 0, 0, 0, 2), (44, .idiv, 45, 0, 0, 0, 0, 0), (45, .ireturn, 46, 0, 0, 0, 0, 0), (46, .iconst 0, 47, 0, 0, 0, 0, 0), (47, .ireturn, 48, 0, 0, 0, 0, 0)]])
def hc_X8_turnBy : hC := (2, [[(0, .aload_n 0, 1, 0, 0, 0, 0, 0), (1, .aload_n 0, 2, 0, 0, 0, 0, 0), (2, .getfield 33, 5, 8, 6, 0, 220, 0), (5, .iload_n 1, 6, 1, 0, 0, 0, 0), (6, .iadd, 7, 0, 0, 0, 0, 0), (7, .bipush 36, 9, 0, 0, 0, 0, 36), (9, .iadd, 10, 0, 0, 0, 0, 0), (10, .bipush 36, 12, 0, 0, 0, 0, 36), (12, .irem, 13, 0, 0, 0, 0, 0), (13, .putfield 33, 16, 8, 6, 0, 220, 0)], [(16, .aload_n 0, 17, 0, 0, 0, 0, 0), (17, .dup, 18, 0, 0, 0, 0, 0), (18, .getfield 36, 21, 8, 7, 0, 222, 0), (21, .iload_n 1, 22, 1, 0, 0, 0, 0), (22, .iadd, 23, 0, 0, 0, 0, 0), (23, .putfield 36, 26, 8, 7, 0, 222, 0), (26, .return_, 27, 0, 0, 0, 0, 0)]])
def hc_X9_alikeUpTo : hC := (5, [[(0, .iconst 0, 1, 0, 0, 0, 0, 0), (1, .istore_n 3, 2, 3, 0, 0, 0, 0), (2, .iconst 0, 3, 0, 0, 0, 0, 0), (3, .istore 4, 5, 4, 0, 0, 0, 0), (5, .iload 4, 7, 4, 0, 0, 0, 0), (7, .iload_n 2, 8, 2, 0, 0, 0, 0), (8, .if_icmp .gt 44, 11, 52, 0, 0, 0, 0), (11, .iload_n 1, 12, 1, 0, 0, 0, 0), (12, .iload 4, 14, 4, 0, 0, 0, 0), (14, .ishr, 15, 0, 0, 0, 0, 0), (15, .iconst 1, 16, 0, 0, 0, 0, 1)], [(16, .iand, 17, 0, 0, 0, 0, 0), (17, .iconst 1, 18, 0, 0, 0, 0, 1), (18, .if_icmp .ne 28, 21, 46, 0, 0, 0, 0), (21, .aload_n 0, 22, 0, 0, 0, 0, 0), (22, .getfield 55, 25, 9, 7, 1, 393, 0), (25, .getfield 234, 28, 4, 3, 1, 335, 0), (28, .iload 4, 30, 4, 0, 0, 0, 0), (30, .iaload, 31, 0, 0, 0, 0, 0), (31, .aload_n 0, 32, 0, 0, 0, 0, 0)], [(32, .getfield 55, 35, 9, 7, 1, 393, 0), (35, .getfield 234, 38, 4, 3, 1, 335, 0), (38, .iload_n 2, 39, 2, 0, 0, 0, 0), (39, .iaload, 40, 0, 0, 0, 0, 0), (40, .if_icmp .ne 6, 43, 46, 0, 0, 0, 0), (43, .iinc 3 1, 46, 3, 0, 0, 0, 1), (46, .iinc 4 1, 49, 4, 0, 0, 0, 1)], [(49, .goto (-44), 52, 5, 0, 0, 0, 0), (52, .iload_n 3, 53, 3, 0, 0, 0, 0), (53, .ireturn, 54, 0, 0, 0, 0, 0)]])
def hc_X9_clear : hC := (2, [[(0, .aload_n 0, 1, 0, 0, 0, 0, 0), (1, .getfield 19, 4, 9, 1, 1, 387, 0), (4, .getfield 77, 7, 6, 1, 0, 159, 0), (7, .istore_n 1, 8, 1, 0, 0, 0, 0), (8, .aload_n 0, 9, 0, 0, 0, 0, 0), (9, .getfield 19, 12, 9, 1, 1, 387, 0), (12, .iconst 0, 13, 0, 0, 0, 0, 0), (13, .putfield 77, 16, 6, 1, 0, 159, 0)], [(16, .iload_n 1, 17, 1, 0, 0, 0, 0), (17, .ireturn, 18, 0, 0, 0, 0, 0)]])
def hc_X9_count : hC := (2, [[(0, .iload_n 1, 1, 1, 0, 0, 0, 0), (1, .tableswitch 90 0 5 #[39, 47, 58, 66, 74, 82], 40, 0, 0, 0, 0, 0)], [], [(40, .aload_n 0, 41, 0, 0, 0, 0, 0), (41, .getfield 33, 44, 9, 3, 1, 389, 0), (44, .getfield 140, 47, 0, 2, 0, 290, 0), (47, .ireturn, 48, 0, 0, 0, 0, 0)], [(48, .aload_n 0, 49, 0, 0, 0, 0, 0), (49, .getfield 33, 52, 9, 3, 1, 389, 0), (52, .getfield 156, 55, 0, 1, 1, 288, 0), (55, .getfield 247, 58, 7, 2, 0, 277, 0), (58, .ireturn, 59, 0, 0, 0, 0, 0), (59, .aload_n 0, 60, 0, 0, 0, 0, 0), (60, .getfield 33, 63, 9, 3, 1, 389, 0), (63, .getfield 248, 66, 0, 3, 0, 292, 0)], [(66, .ireturn, 67, 0, 0, 0, 0, 0), (67, .aload_n 0, 68, 0, 0, 0, 0, 0), (68, .getfield 55, 71, 9, 7, 1, 393, 0), (71, .getfield 105, 74, 4, 4, 0, 337, 0), (74, .ireturn, 75, 0, 0, 0, 0, 0), (75, .aload_n 0, 76, 0, 0, 0, 0, 0), (76, .getfield 19, 79, 9, 1, 1, 387, 0), (79, .getfield 77, 82, 6, 1, 0, 159, 0)], [(82, .ireturn, 83, 0, 0, 0, 0, 0), (83, .aload_n 0, 84, 0, 0, 0, 0, 0), (84, .getfield 40, 87, 9, 4, 1, 390, 0), (87, .getfield 146, 90, 1, 2, 0, 314, 0), (90, .ireturn, 91, 0, 0, 0, 0, 0), (91, .iconst (-1), 92, 0, 0, 0, 0, (-1)), (92, .ireturn, 93, 0, 0, 0, 0, 0)]])
def hc_X9_forget : hC := (2, [[(0, .aload_n 0, 1, 0, 0, 0, 0, 0), (1, .getfield 55, 4, 9, 7, 1, 393, 0), (4, .getfield 105, 7, 4, 4, 0, 337, 0), (7, .istore_n 1, 8, 1, 0, 0, 0, 0), (8, .aload_n 0, 9, 0, 0, 0, 0, 0), (9, .getfield 55, 12, 9, 7, 1, 393, 0), (12, .iconst 0, 13, 0, 0, 0, 0, 0), (13, .putfield 105, 16, 4, 4, 0, 337, 0)], [(16, .iload_n 1, 17, 1, 0, 0, 0, 0), (17, .ireturn, 18, 0, 0, 0, 0, 0)]])
def hc_X9_isWithin : hC := (3, [[(0, .iload_n 0, 1, 0, 0, 0, 0, 0), (1, .iload_n 1, 2, 1, 0, 0, 0, 0), (2, .if_icmp .lt 12, 5, 14, 0, 0, 0, 0), (5, .iload_n 0, 6, 0, 0, 0, 0, 0), (6, .iload_n 2, 7, 2, 0, 0, 0, 0), (7, .if_icmp .gt 7, 10, 14, 0, 0, 0, 0), (10, .iconst 1, 11, 0, 0, 0, 0, 1), (11, .goto 4, 14, 15, 0, 0, 0, 0), (14, .iconst 0, 15, 0, 0, 0, 0, 0), (15, .ireturn, 16, 0, 0, 2, 0, 0)]])
def hc_X9_loseImages : hC := (2, [[(0, .iconst 0, 1, 0, 0, 0, 0, 0), (1, .istore_n 1, 2, 1, 0, 0, 0, 0), (2, .iload_n 1, 3, 1, 0, 0, 0, 0), (3, .aload_n 0, 4, 0, 0, 0, 0, 0), (4, .getfield 48, 7, 9, 6, 1, 392, 0), (7, .arraylength, 8, 0, 0, 0, 0, 0), (8, .if_icmp .ge 16, 11, 24, 0, 0, 0, 0), (11, .aload_n 0, 12, 0, 0, 0, 0, 0), (12, .getfield 48, 15, 9, 6, 1, 392, 0), (15, .iload_n 1, 16, 1, 0, 0, 0, 0)], [(16, .iconst 0, 17, 0, 0, 0, 0, 0), (17, .bastore, 18, 0, 0, 0, 0, 0), (18, .iinc 1 1, 21, 1, 0, 0, 0, 1), (21, .goto (-19), 24, 2, 0, 0, 0, 0), (24, .return_, 25, 0, 0, 0, 0, 0)]])
def hc_X0_startAnew : hC := (1, [[(0, .aload_n 0, 1, 0, 0, 0, 0, 0), (1, .getfield 12, 4, 0, 0, 1, 285, 0), (4, .invokevirtual 25, 7, 45, 0, 8, 503, 0), (7, .aload_n 0, 8, 0, 0, 0, 0, 0), (8, .getfield 21, 11, 0, 1, 1, 287, 0), (11, .invokevirtual 28, 14, 40, 0, 7, 504, 0), (14, .aload_n 0, 15, 0, 0, 0, 0, 0), (15, .iconst 0, 16, 0, 0, 0, 0, 0)], [(16, .putfield 29, 19, 0, 2, 0, 289, 0), (19, .aload_n 0, 20, 0, 0, 0, 0, 0), (20, .iconst 0, 21, 0, 0, 0, 0, 0), (21, .putfield 33, 24, 0, 3, 0, 291, 0), (24, .return_, 25, 0, 0, 0, 0, 0)]])
def hc_X10_back : hC := (3, [[(0, .iload_n 1, 1, 1, 0, 0, 0, 0), (1, .iconst 0, 2, 0, 0, 0, 0, 0), (2, .iconst 1, 3, 0, 0, 0, 0, 1), (3, .invokestatic 59, 6, 10, 3, 0, 886, 1), (6, .ifCond .ne 5, 9, 11, 0, 0, 0, 0), (9, .iconst (-1), 10, 0, 0, 0, 0, (-1)), (10, .ireturn, 11, 0, 0, 0, 0, 0), (11, .aload_n 0, 12, 0, 0, 0, 0, 0), (12, .getfield 22, 15, 10, 5, 1, 808, 0), (15, .iload_n 1, 16, 1, 0, 0, 0, 0)], [(16, .baload, 17, 0, 0, 0, 0, 0), (17, .ifCond .ne 6, 20, 23, 0, 0, 0, 0), (20, .bipush (-2), 22, 0, 0, 0, 0, (-2)), (22, .ireturn, 23, 0, 0, 0, 0, 0), (23, .iconst 0, 24, 0, 0, 0, 0, 0), (24, .istore_n 2, 25, 2, 0, 0, 0, 0), (25, .iload_n 2, 26, 2, 0, 0, 0, 0), (26, .bipush 59, 28, 0, 0, 0, 0, 59), (28, .if_icmp .ge 26, 31, 54, 0, 0, 0, 0), (31, .aload_n 0, 32, 0, 0, 0, 0, 0)], [(32, .getfield 7, 35, 10, 0, 1, 803, 0), (35, .iload_n 2, 36, 2, 0, 0, 0, 0), (36, .aload_n 0, 37, 0, 0, 0, 0, 0), (37, .getfield 19, 40, 10, 4, 1, 807, 0), (40, .bipush 59, 42, 0, 0, 0, 0, 59), (42, .iload_n 1, 43, 1, 0, 0, 0, 0), (43, .imul, 44, 0, 0, 0, 0, 0), (44, .iload_n 2, 45, 2, 0, 0, 0, 0), (45, .iadd, 46, 0, 0, 0, 0, 0), (46, .iaload, 47, 0, 0, 0, 0, 0), (47, .iastore, 48, 0, 0, 0, 0, 0)], [(48, .iinc 2 1, 51, 2, 0, 0, 0, 1), (51, .goto (-26), 54, 25, 0, 0, 0, 0), (54, .aload_n 0, 55, 0, 0, 0, 0, 0), (55, .iconst 0, 56, 0, 0, 0, 0, 0), (56, .putfield 113, 59, 10, 3, 0, 806, 0), (59, .aload_n 0, 60, 0, 0, 0, 0, 0), (60, .getfield 7, 63, 10, 0, 1, 803, 0), (63, .bipush 16, 65, 0, 0, 0, 0, 16)], [(65, .iaload, 66, 0, 0, 0, 0, 0), (66, .ireturn, 67, 0, 0, 0, 0, 0)]])
def hc_X10_becomes : hC := (3, [[(0, .iload_n 2, 1, 2, 0, 0, 0, 0), (1, .iconst 0, 2, 0, 0, 0, 0, 0), (2, .iconst 1, 3, 0, 0, 0, 0, 1), (3, .invokestatic 59, 6, 10, 3, 0, 886, 1), (6, .ifCond .ne 5, 9, 11, 0, 0, 0, 0), (9, .iconst (-1), 10, 0, 0, 0, 0, (-1)), (10, .ireturn, 11, 0, 0, 0, 0, 0), (11, .aload_n 0, 12, 0, 0, 0, 0, 0), (12, .getfield 7, 15, 10, 0, 1, 803, 0), (15, .iload_n 1, 16, 1, 0, 0, 0, 0)], [(16, .iaload, 17, 0, 0, 0, 0, 0), (17, .iload_n 2, 18, 2, 0, 0, 0, 0), (18, .if_icmp .ne 6, 21, 24, 0, 0, 0, 0), (21, .bipush (-2), 23, 0, 0, 0, 0, (-2)), (23, .ireturn, 24, 0, 0, 0, 0, 0), (24, .aload_n 0, 25, 0, 0, 0, 0, 0), (25, .invokevirtual 158, 28, 14, 0, 10, 931, 0), (28, .aload_n 0, 29, 0, 0, 0, 0, 0), (29, .getfield 7, 32, 10, 0, 1, 803, 0)], [(32, .iload_n 1, 33, 1, 0, 0, 0, 0), (33, .iload_n 2, 34, 2, 0, 0, 0, 0), (34, .iastore, 35, 0, 0, 0, 0, 0), (35, .aload_n 0, 36, 0, 0, 0, 0, 0), (36, .getfield 7, 39, 10, 0, 1, 803, 0), (39, .iconst 0, 40, 0, 0, 0, 0, 0), (40, .iaload, 41, 0, 0, 0, 0, 0), (41, .ireturn, 42, 0, 0, 0, 0, 0)]])
def hc_X10_blows : hC := (4, [[(0, .iload_n 1, 1, 1, 0, 0, 0, 0), (1, .iconst 0, 2, 0, 0, 0, 0, 0), (2, .bipush 40, 4, 0, 0, 0, 0, 40), (4, .invokestatic 59, 7, 10, 3, 0, 886, 1), (7, .ifCond .eq 13, 10, 20, 0, 0, 0, 0), (10, .iload_n 2, 11, 2, 0, 0, 0, 0), (11, .iconst 0, 12, 0, 0, 0, 0, 0), (12, .bipush 35, 14, 0, 0, 0, 0, 35), (14, .invokestatic 59, 17, 10, 3, 0, 886, 1)], [(17, .ifCond .ne 5, 20, 22, 0, 0, 0, 0), (20, .iconst (-1), 21, 0, 0, 0, 0, (-1)), (21, .ireturn, 22, 0, 0, 0, 0, 0), (22, .aload_n 0, 23, 0, 0, 0, 0, 0), (23, .getfield 7, 26, 10, 0, 1, 803, 0), (26, .iconst 4, 27, 0, 0, 0, 0, 4), (27, .iaload, 28, 0, 0, 0, 0, 0), (28, .istore_n 3, 29, 3, 0, 0, 0, 0), (29, .iload_n 3, 30, 3, 0, 0, 0, 0), (30, .iload_n 1, 31, 1, 0, 0, 0, 0), (31, .if_icmp .ne 16, 34, 47, 0, 0, 0, 0)], [(34, .aload_n 0, 35, 0, 0, 0, 0, 0), (35, .getfield 7, 38, 10, 0, 1, 803, 0), (38, .iconst 5, 39, 0, 0, 0, 0, 5), (39, .iaload, 40, 0, 0, 0, 0, 0), (40, .iload_n 2, 41, 2, 0, 0, 0, 0), (41, .if_icmp .ne 6, 44, 47, 0, 0, 0, 0), (44, .bipush (-2), 46, 0, 0, 0, 0, (-2)), (46, .ireturn, 47, 0, 0, 0, 0, 0), (47, .aload_n 0, 48, 0, 0, 0, 0, 0)], [(48, .invokevirtual 158, 51, 14, 0, 10, 931, 0), (51, .aload_n 0, 52, 0, 0, 0, 0, 0), (52, .getfield 7, 55, 10, 0, 1, 803, 0), (55, .iconst 4, 56, 0, 0, 0, 0, 4), (56, .iload_n 1, 57, 1, 0, 0, 0, 0), (57, .iastore, 58, 0, 0, 0, 0, 0), (58, .aload_n 0, 59, 0, 0, 0, 0, 0), (59, .getfield 7, 62, 10, 0, 1, 803, 0), (62, .iconst 5, 63, 0, 0, 0, 0, 5), (63, .iload_n 2, 64, 2, 0, 0, 0, 0)], [(64, .iastore, 65, 0, 0, 0, 0, 0), (65, .iload_n 3, 66, 3, 0, 0, 0, 0), (66, .ireturn, 67, 0, 0, 0, 0, 0)]])
def hc_X10_closes : hC := (2, [[(0, .aload_n 0, 1, 0, 0, 0, 0, 0), (1, .getfield 188, 4, 10, 20, 0, 823, 0), (4, .iconst 4, 5, 0, 0, 0, 0, 4), (5, .if_icmp .ge 5, 8, 10, 0, 0, 0, 0), (8, .iconst 0, 9, 0, 0, 0, 0, 0), (9, .ireturn, 10, 0, 0, 2, 0, 0), (10, .aload_n 0, 11, 0, 0, 0, 0, 0), (11, .getfield 41, 14, 10, 19, 1, 822, 0), (14, .aload_n 0, 15, 0, 0, 0, 0, 0), (15, .getfield 188, 18, 10, 20, 0, 823, 0)], [(18, .iconst 3, 19, 0, 0, 0, 0, 3), (19, .isub, 20, 0, 0, 0, 0, 0), (20, .iaload, 21, 0, 0, 0, 0, 0), (21, .aload_n 0, 22, 0, 0, 0, 0, 0), (22, .getfield 41, 25, 10, 19, 1, 822, 0), (25, .aload_n 0, 26, 0, 0, 0, 0, 0), (26, .getfield 188, 29, 10, 20, 0, 823, 0), (29, .iconst 2, 30, 0, 0, 0, 0, 2), (30, .isub, 31, 0, 0, 0, 0, 0), (31, .iaload, 32, 0, 0, 0, 0, 0)], [(32, .invokestatic 119, 35, 6, 2, 0, 975, 1), (35, .istore_n 1, 36, 1, 0, 0, 0, 0), (36, .iload_n 1, 37, 1, 0, 0, 0, 0), (37, .aload_n 0, 38, 0, 0, 0, 0, 0), (38, .getfield 41, 41, 10, 19, 1, 822, 0), (41, .aload_n 0, 42, 0, 0, 0, 0, 0), (42, .getfield 188, 45, 10, 20, 0, 823, 0), (45, .iconst 4, 46, 0, 0, 0, 0, 4), (46, .isub, 47, 0, 0, 0, 0, 0), (47, .iaload, 48, 0, 0, 0, 0, 0)], [(48, .aload_n 0, 49, 0, 0, 0, 0, 0), (49, .getfield 41, 52, 10, 19, 1, 822, 0), (52, .aload_n 0, 53, 0, 0, 0, 0, 0), (53, .getfield 188, 56, 10, 20, 0, 823, 0), (56, .iconst 3, 57, 0, 0, 0, 0, 3), (57, .isub, 58, 0, 0, 0, 0, 0), (58, .iaload, 59, 0, 0, 0, 0, 0), (59, .invokestatic 119, 62, 6, 2, 0, 975, 1), (62, .if_icmp .gt 36, 65, 98, 0, 0, 0, 0)], [(65, .iload_n 1, 66, 1, 0, 0, 0, 0), (66, .aload_n 0, 67, 0, 0, 0, 0, 0), (67, .getfield 41, 70, 10, 19, 1, 822, 0), (70, .aload_n 0, 71, 0, 0, 0, 0, 0), (71, .getfield 188, 74, 10, 20, 0, 823, 0), (74, .iconst 2, 75, 0, 0, 0, 0, 2), (75, .isub, 76, 0, 0, 0, 0, 0), (76, .iaload, 77, 0, 0, 0, 0, 0), (77, .aload_n 0, 78, 0, 0, 0, 0, 0), (78, .getfield 41, 81, 10, 19, 1, 822, 0)], [(81, .aload_n 0, 82, 0, 0, 0, 0, 0), (82, .getfield 188, 85, 10, 20, 0, 823, 0), (85, .iconst 1, 86, 0, 0, 0, 0, 1), (86, .isub, 87, 0, 0, 0, 0, 0), (87, .iaload, 88, 0, 0, 0, 0, 0), (88, .invokestatic 119, 91, 6, 2, 0, 975, 1), (91, .if_icmp .gt 7, 94, 98, 0, 0, 0, 0), (94, .iconst 1, 95, 0, 0, 0, 0, 1), (95, .goto 4, 98, 99, 0, 0, 0, 0)], [(98, .iconst 0, 99, 0, 0, 0, 0, 0), (99, .ireturn, 100, 0, 0, 2, 0, 0)]])
def hc_X10_counts : hC := (2, [[(0, .aload_n 1, 1, 1, 0, 0, 0, 0), (1, .bipush 11, 3, 0, 0, 0, 0, 11), (3, .aload_n 1, 4, 1, 0, 0, 0, 0), (4, .iconst 4, 5, 0, 0, 0, 0, 4), (5, .iaload, 6, 0, 0, 0, 0, 0), (6, .aload_n 0, 7, 0, 0, 0, 0, 0), (7, .getfield 26, 10, 10, 6, 1, 809, 0), (10, .iconst 2, 11, 0, 0, 0, 0, 2), (11, .iaload, 12, 0, 0, 0, 0, 0), (12, .aload_n 0, 13, 0, 0, 0, 0, 0), (13, .getfield 26, 16, 10, 6, 1, 809, 0)], [(16, .iconst 3, 17, 0, 0, 0, 0, 3), (17, .iaload, 18, 0, 0, 0, 0, 0), (18, .iconst 1, 19, 0, 0, 0, 0, 1), (19, .isub, 20, 0, 0, 0, 0, 0), (20, .invokestatic 59, 23, 10, 3, 0, 886, 1), (23, .ifCond .eq 12, 26, 35, 0, 0, 0, 0), (26, .aload_n 1, 27, 1, 0, 0, 0, 0), (27, .bipush 11, 29, 0, 0, 0, 0, 11), (29, .iaload, 30, 0, 0, 0, 0, 0), (30, .iconst 1, 31, 0, 0, 0, 0, 1), (31, .iadd, 32, 0, 0, 0, 0, 0)], [(32, .goto 4, 35, 36, 0, 0, 0, 0), (35, .iconst 0, 36, 0, 0, 0, 0, 0), (36, .iastore, 37, 0, 0, 0, 0, 0), (37, .aload_n 1, 38, 1, 0, 0, 0, 0), (38, .bipush 12, 40, 0, 0, 0, 0, 12), (40, .aload_n 1, 41, 1, 0, 0, 0, 0), (41, .iconst 4, 42, 0, 0, 0, 0, 4), (42, .iaload, 43, 0, 0, 0, 0, 0), (43, .aload_n 0, 44, 0, 0, 0, 0, 0), (44, .getfield 26, 47, 10, 6, 1, 809, 0), (47, .iconst 3, 48, 0, 0, 0, 0, 3)], [(48, .iaload, 49, 0, 0, 0, 0, 0), (49, .if_icmp .lt 12, 52, 61, 0, 0, 0, 0), (52, .aload_n 1, 53, 1, 0, 0, 0, 0), (53, .bipush 12, 55, 0, 0, 0, 0, 12), (55, .iaload, 56, 0, 0, 0, 0, 0), (56, .iconst 1, 57, 0, 0, 0, 0, 1), (57, .iadd, 58, 0, 0, 0, 0, 0), (58, .goto 4, 61, 62, 0, 0, 0, 0), (61, .iconst 0, 62, 0, 0, 0, 0, 0), (62, .iastore, 63, 0, 0, 0, 0, 0), (63, .aload_n 1, 64, 1, 0, 0, 0, 0)], [(64, .bipush 13, 66, 0, 0, 0, 0, 13), (66, .aload_n 1, 67, 1, 0, 0, 0, 0), (67, .bipush 9, 69, 0, 0, 0, 0, 9), (69, .iaload, 70, 0, 0, 0, 0, 0), (70, .ifCond .ne 12, 73, 82, 0, 0, 0, 0), (73, .aload_n 1, 74, 1, 0, 0, 0, 0), (74, .bipush 13, 76, 0, 0, 0, 0, 13), (76, .iaload, 77, 0, 0, 0, 0, 0), (77, .iconst 1, 78, 0, 0, 0, 0, 1), (78, .iadd, 79, 0, 0, 0, 0, 0), (79, .goto 4, 82, 83, 0, 0, 0, 0)], [(82, .iconst 0, 83, 0, 0, 0, 0, 0), (83, .iastore, 84, 0, 0, 0, 0, 0), (84, .return_, 85, 0, 0, 0, 0, 0)]])
def hc_X10_errorOf : hC := (3, [[(0, .aload_n 1, 1, 1, 0, 0, 0, 0), (1, .bipush 6, 3, 0, 0, 0, 0, 6), (3, .iaload, 4, 0, 0, 0, 0, 0), (4, .aload_n 1, 5, 1, 0, 0, 0, 0), (5, .iconst 5, 6, 0, 0, 0, 0, 5), (6, .iaload, 7, 0, 0, 0, 0, 0), (7, .invokestatic 119, 10, 6, 2, 0, 975, 1), (10, .istore_n 2, 11, 2, 0, 0, 0, 0), (11, .iload_n 2, 12, 2, 0, 0, 0, 0), (12, .bipush 18, 14, 0, 0, 0, 0, 18), (14, .if_icmp .le 10, 17, 24, 0, 0, 0, 0)], [(17, .bipush 36, 19, 0, 0, 0, 0, 36), (19, .iload_n 2, 20, 2, 0, 0, 0, 0), (20, .isub, 21, 0, 0, 0, 0, 0), (21, .goto 4, 24, 25, 0, 0, 0, 0), (24, .iload_n 2, 25, 2, 0, 0, 0, 0), (25, .ireturn, 26, 0, 0, 0, 0, 0)]])
def hc_X10_findsTurns : hC := (4, [[(0, .aload_n 0, 1, 0, 0, 0, 0, 0), (1, .invokevirtual 181, 4, 24, 0, 10, 1062, 1), (4, .istore_n 1, 5, 1, 0, 0, 0, 0), (5, .aload_n 0, 6, 0, 0, 0, 0, 0), (6, .iconst 0, 7, 0, 0, 0, 0, 0), (7, .putfield 185, 10, 10, 18, 0, 821, 0), (10, .iconst 0, 11, 0, 0, 0, 0, 0), (11, .istore_n 2, 12, 2, 0, 0, 0, 0), (12, .iload_n 2, 13, 2, 0, 0, 0, 0), (13, .iload_n 1, 14, 1, 0, 0, 0, 0), (14, .if_icmp .ge 102, 17, 116, 0, 0, 0, 0)], [(17, .iload_n 2, 18, 2, 0, 0, 0, 0), (18, .ifCond .eq 57, 21, 75, 0, 0, 0, 0), (21, .iload_n 2, 22, 2, 0, 0, 0, 0), (22, .iload_n 1, 23, 1, 0, 0, 0, 0), (23, .iconst 1, 24, 0, 0, 0, 0, 1), (24, .isub, 25, 0, 0, 0, 0, 0), (25, .if_icmp .eq 50, 28, 75, 0, 0, 0, 0), (28, .aload_n 0, 29, 0, 0, 0, 0, 0), (29, .getfield 35, 32, 10, 16, 1, 819, 0)], [(32, .iload_n 2, 33, 2, 0, 0, 0, 0), (33, .iaload, 34, 0, 0, 0, 0, 0), (34, .aload_n 0, 35, 0, 0, 0, 0, 0), (35, .getfield 35, 38, 10, 16, 1, 819, 0), (38, .iload_n 2, 39, 2, 0, 0, 0, 0), (39, .iconst 1, 40, 0, 0, 0, 0, 1), (40, .isub, 41, 0, 0, 0, 0, 0), (41, .iaload, 42, 0, 0, 0, 0, 0), (42, .if_icmp .le 7, 45, 49, 0, 0, 0, 0), (45, .iconst 1, 46, 0, 0, 0, 0, 1), (46, .goto 4, 49, 50, 0, 0, 0, 0)], [(49, .iconst 0, 50, 0, 0, 0, 0, 0), (50, .aload_n 0, 51, 0, 0, 0, 0, 0), (51, .getfield 35, 54, 10, 16, 1, 819, 0), (54, .iload_n 2, 55, 2, 0, 0, 0, 0), (55, .iconst 1, 56, 0, 0, 0, 0, 1), (56, .iadd, 57, 0, 0, 0, 0, 0), (57, .iaload, 58, 0, 0, 0, 0, 0), (58, .aload_n 0, 59, 0, 0, 0, 0, 0), (59, .getfield 35, 62, 10, 16, 1, 819, 0), (62, .iload_n 2, 63, 2, 0, 0, 0, 0), (63, .iaload, 64, 0, 0, 0, 0, 0)], [(64, .if_icmp .le 7, 67, 71, 0, 0, 0, 0), (67, .iconst 1, 68, 0, 0, 0, 0, 1), (68, .goto 4, 71, 72, 0, 0, 0, 0), (71, .iconst 0, 72, 0, 0, 0, 0, 0), (72, .if_icmp .eq 7, 75, 79, 0, 0, 0, 0), (75, .iconst 1, 76, 0, 0, 0, 0, 1), (76, .goto 4, 79, 80, 0, 0, 0, 0), (79, .iconst 0, 80, 0, 0, 0, 0, 0)], [(80, .istore_n 3, 81, 3, 0, 0, 0, 0), (81, .iload_n 3, 82, 3, 0, 0, 0, 0), (82, .ifCond .eq 28, 85, 110, 0, 0, 0, 0), (85, .aload_n 0, 86, 0, 0, 0, 0, 0), (86, .getfield 38, 89, 10, 17, 1, 820, 0), (89, .aload_n 0, 90, 0, 0, 0, 0, 0), (90, .getfield 185, 93, 10, 18, 0, 821, 0), (93, .aload_n 0, 94, 0, 0, 0, 0, 0), (94, .getfield 35, 97, 10, 16, 1, 819, 0)], [(97, .iload_n 2, 98, 2, 0, 0, 0, 0), (98, .iaload, 99, 0, 0, 0, 0, 0), (99, .iastore, 100, 0, 0, 0, 0, 0), (100, .aload_n 0, 101, 0, 0, 0, 0, 0), (101, .dup, 102, 0, 0, 0, 0, 0), (102, .getfield 185, 105, 10, 18, 0, 821, 0), (105, .iconst 1, 106, 0, 0, 0, 0, 1), (106, .iadd, 107, 0, 0, 0, 0, 0), (107, .putfield 185, 110, 10, 18, 0, 821, 0), (110, .iinc 2 1, 113, 2, 0, 0, 0, 1)], [(113, .goto (-101), 116, 12, 0, 0, 0, 0), (116, .return_, 117, 0, 0, 0, 0, 0)]])
def hc_X10_ices : hC := (3, [[(0, .iload_n 1, 1, 1, 0, 0, 0, 0), (1, .iconst 0, 2, 0, 0, 0, 0, 0), (2, .iconst 5, 3, 0, 0, 0, 0, 5), (3, .invokestatic 59, 6, 10, 3, 0, 886, 1), (6, .ifCond .ne 5, 9, 11, 0, 0, 0, 0), (9, .iconst (-1), 10, 0, 0, 0, 0, (-1)), (10, .ireturn, 11, 0, 0, 0, 0, 0), (11, .aload_n 0, 12, 0, 0, 0, 0, 0), (12, .getfield 7, 15, 10, 0, 1, 803, 0), (15, .bipush 8, 17, 0, 0, 0, 0, 8)], [(17, .iaload, 18, 0, 0, 0, 0, 0), (18, .istore_n 2, 19, 2, 0, 0, 0, 0), (19, .iload_n 2, 20, 2, 0, 0, 0, 0), (20, .iload_n 1, 21, 1, 0, 0, 0, 0), (21, .if_icmp .ne 6, 24, 27, 0, 0, 0, 0), (24, .bipush (-2), 26, 0, 0, 0, 0, (-2)), (26, .ireturn, 27, 0, 0, 0, 0, 0), (27, .aload_n 0, 28, 0, 0, 0, 0, 0), (28, .invokevirtual 158, 31, 14, 0, 10, 931, 0), (31, .aload_n 0, 32, 0, 0, 0, 0, 0)], [(32, .getfield 7, 35, 10, 0, 1, 803, 0), (35, .bipush 8, 37, 0, 0, 0, 0, 8), (37, .iload_n 1, 38, 1, 0, 0, 0, 0), (38, .iastore, 39, 0, 0, 0, 0, 0), (39, .iload_n 2, 40, 2, 0, 0, 0, 0), (40, .ireturn, 41, 0, 0, 0, 0, 0)]])
def hc_X10_init : hC := (1, [[(0, .aload_n 0, 1, 0, 0, 0, 0, 0), (1, .invokespecial 1, 4, 9998, 0, 0, 794, 0), (4, .aload_n 0, 5, 0, 0, 0, 0, 0), (5, .bipush 59, 7, 0, 0, 0, 0, 59), (7, .newarray .int, 9, 10000, 0, 0, 0, 0), (9, .putfield 7, 12, 10, 0, 1, 803, 0), (12, .aload_n 0, 13, 0, 0, 0, 0, 0), (13, .bipush 59, 15, 0, 0, 0, 0, 59), (15, .newarray .int, 17, 10000, 0, 0, 0, 0)], [(17, .putfield 13, 20, 10, 1, 1, 804, 0), (20, .aload_n 0, 21, 0, 0, 0, 0, 0), (21, .sipush 354, 24, 0, 0, 0, 0, 354), (24, .newarray .int, 26, 10000, 0, 0, 0, 0), (26, .putfield 16, 29, 10, 2, 1, 805, 0), (29, .aload_n 0, 30, 0, 0, 0, 0, 0), (30, .bipush 118, 32, 0, 0, 0, 0, 118)], [(32, .newarray .int, 34, 10000, 0, 0, 0, 0), (34, .putfield 19, 37, 10, 4, 1, 807, 0), (37, .aload_n 0, 38, 0, 0, 0, 0, 0), (38, .iconst 2, 39, 0, 0, 0, 0, 2), (39, .newarray .boolean, 41, 20000, 0, 0, 0, 0), (41, .putfield 22, 44, 10, 5, 1, 808, 0), (44, .aload_n 0, 45, 0, 0, 0, 0, 0), (45, .bipush 6, 47, 0, 0, 0, 0, 6), (47, .newarray .int, 49, 10000, 0, 0, 0, 0)], [(49, .putfield 26, 52, 10, 6, 1, 809, 0), (52, .aload_n 0, 53, 0, 0, 0, 0, 0), (53, .bipush 80, 55, 0, 0, 0, 0, 80), (55, .newarray .int, 57, 10000, 0, 0, 0, 0), (57, .putfield 29, 60, 10, 7, 1, 810, 0), (60, .aload_n 0, 61, 0, 0, 0, 0, 0), (61, .bipush 6, 63, 0, 0, 0, 0, 6), (63, .newarray .int, 65, 10000, 0, 0, 0, 0)], [(65, .putfield 32, 68, 10, 14, 1, 817, 0), (68, .aload_n 0, 69, 0, 0, 0, 0, 0), (69, .bipush 40, 71, 0, 0, 0, 0, 40), (71, .newarray .int, 73, 10000, 0, 0, 0, 0), (73, .putfield 35, 76, 10, 16, 1, 819, 0), (76, .aload_n 0, 77, 0, 0, 0, 0, 0), (77, .bipush 40, 79, 0, 0, 0, 0, 40), (79, .newarray .int, 81, 10000, 0, 0, 0, 0)], [(81, .putfield 38, 84, 10, 17, 1, 820, 0), (84, .aload_n 0, 85, 0, 0, 0, 0, 0), (85, .bipush 40, 87, 0, 0, 0, 0, 40), (87, .newarray .int, 89, 10000, 0, 0, 0, 0), (89, .putfield 41, 92, 10, 19, 1, 822, 0), (92, .aload_n 0, 93, 0, 0, 0, 0, 0), (93, .sipush 1000, 96, 0, 0, 0, 0, 1000)], [(96, .newarray .int, 98, 10000, 0, 0, 0, 0), (98, .putfield 44, 101, 10, 21, 1, 824, 0), (101, .aload_n 0, 102, 0, 0, 0, 0, 0), (102, .bipush 18, 104, 0, 0, 0, 0, 18), (104, .newarray .int, 106, 10000, 0, 0, 0, 0), (106, .putfield 47, 109, 10, 23, 1, 826, 0), (109, .aload_n 0, 110, 0, 0, 0, 0, 0), (110, .bipush 6, 112, 0, 0, 0, 0, 6)], [(112, .newarray .int, 114, 10000, 0, 0, 0, 0), (114, .putfield 50, 117, 10, 25, 1, 828, 0), (117, .aload_n 0, 118, 0, 0, 0, 0, 0), (118, .invokevirtual 53, 121, 17, 0, 10, 795, 0), (121, .aload_n 0, 122, 0, 0, 0, 0, 0), (122, .invokevirtual 56, 125, 19, 0, 10, 799, 0), (125, .return_, 126, 0, 0, 0, 0, 0)]])
def hc_X10_isFigure : hC := (1, [[(0, .aload_n 0, 1, 0, 0, 0, 0, 0), (1, .getfield 67, 4, 10, 9, 0, 812, 0), (4, .aload_n 0, 5, 0, 0, 0, 0, 0), (5, .getfield 63, 8, 10, 8, 0, 811, 0), (8, .if_icmp .ge 26, 11, 34, 0, 0, 0, 0), (11, .aload_n 0, 12, 0, 0, 0, 0, 0), (12, .getfield 29, 15, 10, 7, 1, 810, 0), (15, .aload_n 0, 16, 0, 0, 0, 0, 0)], [(16, .getfield 67, 19, 10, 9, 0, 812, 0), (19, .iaload, 20, 0, 0, 0, 0, 0), (20, .bipush 48, 22, 0, 0, 0, 0, 48), (22, .bipush 57, 24, 0, 0, 0, 0, 57), (24, .invokestatic 59, 27, 10, 3, 0, 886, 1), (27, .ifCond .eq 7, 30, 34, 0, 0, 0, 0), (30, .iconst 1, 31, 0, 0, 0, 0, 1), (31, .goto 4, 34, 35, 0, 0, 0, 0)], [(34, .iconst 0, 35, 0, 0, 0, 0, 0), (35, .ireturn, 36, 0, 0, 2, 0, 0)]])
def hc_X10_isWound : hC := (2, [[(0, .aload_n 1, 1, 1, 0, 0, 0, 0), (1, .bipush 7, 3, 0, 0, 0, 0, 7), (3, .iaload, 4, 0, 0, 0, 0, 0), (4, .iconst 0, 5, 0, 0, 0, 0, 0), (5, .invokestatic 119, 8, 6, 2, 0, 975, 1), (8, .aload_n 0, 9, 0, 0, 0, 0, 0), (9, .getfield 26, 12, 10, 6, 1, 809, 0), (12, .iconst 4, 13, 0, 0, 0, 0, 4), (13, .iaload, 14, 0, 0, 0, 0, 0), (14, .if_icmp .lt 7, 17, 21, 0, 0, 0, 0)], [(17, .iconst 1, 18, 0, 0, 0, 0, 1), (18, .goto 4, 21, 22, 0, 0, 0, 0), (21, .iconst 0, 22, 0, 0, 0, 0, 0), (22, .ireturn, 23, 0, 0, 2, 0, 0)]])
def hc_X10_keep : hC := (3, [[(0, .iload_n 1, 1, 1, 0, 0, 0, 0), (1, .iconst 0, 2, 0, 0, 0, 0, 0), (2, .iconst 1, 3, 0, 0, 0, 0, 1), (3, .invokestatic 59, 6, 10, 3, 0, 886, 1), (6, .ifCond .ne 5, 9, 11, 0, 0, 0, 0), (9, .iconst (-1), 10, 0, 0, 0, 0, (-1)), (10, .ireturn, 11, 0, 0, 0, 0, 0), (11, .iconst 0, 12, 0, 0, 0, 0, 0), (12, .istore_n 2, 13, 2, 0, 0, 0, 0), (13, .iload_n 2, 14, 2, 0, 0, 0, 0), (14, .bipush 59, 16, 0, 0, 0, 0, 59)], [(16, .if_icmp .ge 26, 19, 42, 0, 0, 0, 0), (19, .aload_n 0, 20, 0, 0, 0, 0, 0), (20, .getfield 19, 23, 10, 4, 1, 807, 0), (23, .bipush 59, 25, 0, 0, 0, 0, 59), (25, .iload_n 1, 26, 1, 0, 0, 0, 0), (26, .imul, 27, 0, 0, 0, 0, 0), (27, .iload_n 2, 28, 2, 0, 0, 0, 0), (28, .iadd, 29, 0, 0, 0, 0, 0), (29, .aload_n 0, 30, 0, 0, 0, 0, 0), (30, .getfield 7, 33, 10, 0, 1, 803, 0)], [(33, .iload_n 2, 34, 2, 0, 0, 0, 0), (34, .iaload, 35, 0, 0, 0, 0, 0), (35, .iastore, 36, 0, 0, 0, 0, 0), (36, .iinc 2 1, 39, 2, 0, 0, 0, 1), (39, .goto (-26), 42, 13, 0, 0, 0, 0), (42, .aload_n 0, 43, 0, 0, 0, 0, 0), (43, .getfield 22, 46, 10, 5, 1, 808, 0), (46, .iload_n 1, 47, 1, 0, 0, 0, 0), (47, .iconst 1, 48, 0, 0, 0, 0, 1)], [(48, .bastore, 49, 0, 0, 0, 0, 0), (49, .aload_n 0, 50, 0, 0, 0, 0, 0), (50, .getfield 7, 53, 10, 0, 1, 803, 0), (53, .bipush 16, 55, 0, 0, 0, 0, 16), (55, .iaload, 56, 0, 0, 0, 0, 0), (56, .ireturn, 57, 0, 0, 0, 0, 0)]])
def hc_X10_resets : hC := (1, [[(0, .aload_n 0, 1, 0, 0, 0, 0, 0), (1, .getfield 7, 4, 10, 0, 1, 803, 0), (4, .iconst 0, 5, 0, 0, 0, 0, 0), (5, .iaload, 6, 0, 0, 0, 0, 0), (6, .iconst 5, 7, 0, 0, 0, 0, 5), (7, .if_icmp .ne 12, 10, 19, 0, 0, 0, 0), (10, .aload_n 0, 11, 0, 0, 0, 0, 0), (11, .getfield 7, 14, 10, 0, 1, 803, 0), (14, .iconst 1, 15, 0, 0, 0, 0, 1), (15, .iaload, 16, 0, 0, 0, 0, 0)], [(16, .ifCond .eq 6, 19, 22, 0, 0, 0, 0), (19, .bipush (-2), 21, 0, 0, 0, 0, (-2)), (21, .ireturn, 22, 0, 0, 0, 0, 0), (22, .aload_n 0, 23, 0, 0, 0, 0, 0), (23, .invokevirtual 158, 26, 14, 0, 10, 931, 0), (26, .aload_n 0, 27, 0, 0, 0, 0, 0), (27, .getfield 7, 30, 10, 0, 1, 803, 0), (30, .iconst 0, 31, 0, 0, 0, 0, 0), (31, .iconst 0, 32, 0, 0, 0, 0, 0)], [(32, .iastore, 33, 0, 0, 0, 0, 0), (33, .aload_n 0, 34, 0, 0, 0, 0, 0), (34, .getfield 7, 37, 10, 0, 1, 803, 0), (37, .bipush 6, 39, 0, 0, 0, 0, 6), (39, .iaload, 40, 0, 0, 0, 0, 0), (40, .ireturn, 41, 0, 0, 0, 0, 0)]])
def hc_X10_sees : hC := (4, [[(0, .iload_n 1, 1, 1, 0, 0, 0, 0), (1, .iconst 1, 2, 0, 0, 0, 0, 1), (2, .bipush 20, 4, 0, 0, 0, 0, 20), (4, .invokestatic 59, 7, 10, 3, 0, 886, 1), (7, .ifCond .eq 24, 10, 31, 0, 0, 0, 0), (10, .iload_n 2, 11, 2, 0, 0, 0, 0), (11, .iconst 0, 12, 0, 0, 0, 0, 0), (12, .bipush 40, 14, 0, 0, 0, 0, 40), (14, .invokestatic 59, 17, 10, 3, 0, 886, 1)], [(17, .ifCond .eq 14, 20, 31, 0, 0, 0, 0), (20, .iload_n 3, 21, 3, 0, 0, 0, 0), (21, .iconst 0, 22, 0, 0, 0, 0, 0), (22, .sipush 999, 25, 0, 0, 0, 0, 999), (25, .invokestatic 59, 28, 10, 3, 0, 886, 1), (28, .ifCond .ne 5, 31, 33, 0, 0, 0, 0), (31, .iconst (-1), 32, 0, 0, 0, 0, (-1))], [(32, .ireturn, 33, 0, 0, 0, 0, 0), (33, .aload_n 0, 34, 0, 0, 0, 0, 0), (34, .getfield 116, 37, 10, 24, 0, 827, 0), (37, .bipush 6, 39, 0, 0, 0, 0, 6), (39, .if_icmp .ne 6, 42, 45, 0, 0, 0, 0), (42, .bipush (-3), 44, 0, 0, 0, 0, (-3)), (44, .ireturn, 45, 0, 0, 0, 0, 0), (45, .aload_n 0, 46, 0, 0, 0, 0, 0), (46, .getfield 47, 49, 10, 23, 1, 826, 0)], [(49, .iconst 3, 50, 0, 0, 0, 0, 3), (50, .aload_n 0, 51, 0, 0, 0, 0, 0), (51, .getfield 116, 54, 10, 24, 0, 827, 0), (54, .imul, 55, 0, 0, 0, 0, 0), (55, .iload_n 1, 56, 1, 0, 0, 0, 0), (56, .iastore, 57, 0, 0, 0, 0, 0), (57, .aload_n 0, 58, 0, 0, 0, 0, 0), (58, .getfield 47, 61, 10, 23, 1, 826, 0), (61, .iconst 3, 62, 0, 0, 0, 0, 3), (62, .aload_n 0, 63, 0, 0, 0, 0, 0), (63, .getfield 116, 66, 10, 24, 0, 827, 0)], [(66, .imul, 67, 0, 0, 0, 0, 0), (67, .iconst 1, 68, 0, 0, 0, 0, 1), (68, .iadd, 69, 0, 0, 0, 0, 0), (69, .iload_n 2, 70, 2, 0, 0, 0, 0), (70, .iastore, 71, 0, 0, 0, 0, 0), (71, .aload_n 0, 72, 0, 0, 0, 0, 0), (72, .getfield 47, 75, 10, 23, 1, 826, 0), (75, .iconst 3, 76, 0, 0, 0, 0, 3), (76, .aload_n 0, 77, 0, 0, 0, 0, 0), (77, .getfield 116, 80, 10, 24, 0, 827, 0)], [(80, .imul, 81, 0, 0, 0, 0, 0), (81, .iconst 2, 82, 0, 0, 0, 0, 2), (82, .iadd, 83, 0, 0, 0, 0, 0), (83, .iload_n 3, 84, 3, 0, 0, 0, 0), (84, .iastore, 85, 0, 0, 0, 0, 0), (85, .aload_n 0, 86, 0, 0, 0, 0, 0), (86, .dup, 87, 0, 0, 0, 0, 0), (87, .getfield 116, 90, 10, 24, 0, 827, 0), (90, .iconst 1, 91, 0, 0, 0, 0, 1), (91, .iadd, 92, 0, 0, 0, 0, 0), (92, .putfield 116, 95, 10, 24, 0, 827, 0), (95, .aload_n 0, 96, 0, 0, 0, 0, 0)], [(96, .getfield 116, 99, 10, 24, 0, 827, 0), (99, .ireturn, 100, 0, 0, 0, 0, 0)]])
def hc_X10_setting : hC := (2, [[(0, .iload_n 1, 1, 1, 0, 0, 0, 0), (1, .iconst 0, 2, 0, 0, 0, 0, 0), (2, .iconst 5, 3, 0, 0, 0, 0, 5), (3, .invokestatic 59, 6, 10, 3, 0, 886, 1), (6, .ifCond .eq 12, 9, 18, 0, 0, 0, 0), (9, .aload_n 0, 10, 0, 0, 0, 0, 0), (10, .getfield 26, 13, 10, 6, 1, 809, 0), (13, .iload_n 1, 14, 1, 0, 0, 0, 0), (14, .iaload, 15, 0, 0, 0, 0, 0), (15, .goto 4, 18, 19, 0, 0, 0, 0)], [(18, .iconst (-1), 19, 0, 0, 0, 0, (-1)), (19, .ireturn, 20, 0, 0, 0, 0, 0)]])
def hc_X10_type : hC := (2, [[(0, .iload_n 1, 1, 1, 0, 0, 0, 0), (1, .iconst 0, 2, 0, 0, 0, 0, 0), (2, .sipush 255, 5, 0, 0, 0, 0, 255), (5, .invokestatic 59, 8, 10, 3, 0, 886, 1), (8, .ifCond .ne 5, 11, 13, 0, 0, 0, 0), (11, .iconst (-1), 12, 0, 0, 0, 0, (-1)), (12, .ireturn, 13, 0, 0, 0, 0, 0), (13, .aload_n 0, 14, 0, 0, 0, 0, 0), (14, .getfield 63, 17, 10, 8, 0, 811, 0)], [(17, .bipush 80, 19, 0, 0, 0, 0, 80), (19, .if_icmp .ne 6, 22, 25, 0, 0, 0, 0), (22, .bipush (-3), 24, 0, 0, 0, 0, (-3)), (24, .ireturn, 25, 0, 0, 0, 0, 0), (25, .aload_n 0, 26, 0, 0, 0, 0, 0), (26, .getfield 29, 29, 10, 7, 1, 810, 0), (29, .aload_n 0, 30, 0, 0, 0, 0, 0), (30, .getfield 63, 33, 10, 8, 0, 811, 0)], [(33, .iload_n 1, 34, 1, 0, 0, 0, 0), (34, .iastore, 35, 0, 0, 0, 0, 0), (35, .aload_n 0, 36, 0, 0, 0, 0, 0), (36, .dup, 37, 0, 0, 0, 0, 0), (37, .getfield 63, 40, 10, 8, 0, 811, 0), (40, .iconst 1, 41, 0, 0, 0, 0, 1), (41, .iadd, 42, 0, 0, 0, 0, 0), (42, .putfield 63, 45, 10, 8, 0, 811, 0), (45, .aload_n 0, 46, 0, 0, 0, 0, 0), (46, .getfield 63, 49, 10, 8, 0, 811, 0)], [(49, .ireturn, 50, 0, 0, 0, 0, 0)]])
def hc_X2_addHalves : hC := (4, [[(0, .aload_n 0, 1, 0, 0, 0, 0, 0), (1, .iload_n 1, 2, 1, 0, 0, 0, 0), (2, .invokevirtual 66, 5, 29, 1, 2, 708, 1), (5, .istore_n 3, 6, 3, 0, 0, 0, 0), (6, .iload_n 3, 7, 3, 0, 0, 0, 0), (7, .bipush 40, 9, 0, 0, 0, 0, 40), (9, .if_icmp .lt 4, 12, 13, 0, 0, 0, 0), (12, .return_, 13, 0, 0, 0, 0, 0), (13, .iload_n 3, 14, 3, 0, 0, 0, 0), (14, .aload_n 0, 15, 0, 0, 0, 0, 0), (15, .getfield 31, 18, 2, 6, 0, 363, 0)], [(18, .if_icmp .ne 27, 21, 45, 0, 0, 0, 0), (21, .aload_n 0, 22, 0, 0, 0, 0, 0), (22, .getfield 18, 25, 2, 4, 1, 361, 0), (25, .iload_n 3, 26, 3, 0, 0, 0, 0), (26, .iload_n 1, 27, 1, 0, 0, 0, 0), (27, .iastore, 28, 0, 0, 0, 0, 0), (28, .aload_n 0, 29, 0, 0, 0, 0, 0), (29, .getfield 21, 32, 2, 5, 1, 362, 0)], [(32, .iload_n 3, 33, 3, 0, 0, 0, 0), (33, .iconst 0, 34, 0, 0, 0, 0, 0), (34, .iastore, 35, 0, 0, 0, 0, 0), (35, .aload_n 0, 36, 0, 0, 0, 0, 0), (36, .dup, 37, 0, 0, 0, 0, 0), (37, .getfield 31, 40, 2, 6, 0, 363, 0), (40, .iconst 1, 41, 0, 0, 0, 0, 1), (41, .iadd, 42, 0, 0, 0, 0, 0), (42, .putfield 31, 45, 2, 6, 0, 363, 0), (45, .aload_n 0, 46, 0, 0, 0, 0, 0), (46, .getfield 21, 49, 2, 5, 1, 362, 0)], [(49, .iload_n 3, 50, 3, 0, 0, 0, 0), (50, .dup2, 51, 0, 0, 0, 0, 0), (51, .iaload, 52, 0, 0, 0, 0, 0), (52, .iload_n 2, 53, 2, 0, 0, 0, 0), (53, .iadd, 54, 0, 0, 0, 0, 0), (54, .iastore, 55, 0, 0, 0, 0, 0), (55, .return_, 56, 0, 0, 0, 0, 0)]])
def hc_X2_greatestDifference : hC := (3, [[(0, .bipush (-9), 2, 0, 0, 0, 0, (-9)), (2, .istore_n 1, 3, 1, 0, 0, 0, 0), (3, .iconst 0, 4, 0, 0, 0, 0, 0), (4, .istore_n 2, 5, 2, 0, 0, 0, 0), (5, .iload_n 2, 6, 2, 0, 0, 0, 0), (6, .aload_n 0, 7, 0, 0, 0, 0, 0), (7, .getfield 31, 10, 2, 6, 0, 363, 0), (10, .if_icmp .ge 20, 13, 30, 0, 0, 0, 0), (13, .iload_n 1, 14, 1, 0, 0, 0, 0), (14, .aload_n 0, 15, 0, 0, 0, 0, 0), (15, .getfield 18, 18, 2, 4, 1, 361, 0)], [(18, .iload_n 2, 19, 2, 0, 0, 0, 0), (19, .iaload, 20, 0, 0, 0, 0, 0), (20, .invokestatic 69, 23, 4, 2, 0, 724, 1), (23, .istore_n 1, 24, 1, 0, 0, 0, 0), (24, .iinc 2 1, 27, 2, 0, 0, 0, 1), (27, .goto (-22), 30, 5, 0, 0, 0, 0), (30, .iload_n 1, 31, 1, 0, 0, 0, 0), (31, .ireturn, 32, 0, 0, 0, 0, 0)]])
def hc_X2_halvesOf : hC := (3, [[(0, .aload_n 0, 1, 0, 0, 0, 0, 0), (1, .iload_n 1, 2, 1, 0, 0, 0, 0), (2, .invokevirtual 66, 5, 29, 1, 2, 708, 1), (5, .istore_n 2, 6, 2, 0, 0, 0, 0), (6, .iload_n 2, 7, 2, 0, 0, 0, 0), (7, .aload_n 0, 8, 0, 0, 0, 0, 0), (8, .getfield 31, 11, 2, 6, 0, 363, 0), (11, .if_icmp .ge 12, 14, 23, 0, 0, 0, 0), (14, .aload_n 0, 15, 0, 0, 0, 0, 0), (15, .getfield 21, 18, 2, 5, 1, 362, 0)], [(18, .iload_n 2, 19, 2, 0, 0, 0, 0), (19, .iaload, 20, 0, 0, 0, 0, 0), (20, .goto 4, 23, 24, 0, 0, 0, 0), (23, .iconst 0, 24, 0, 0, 0, 0, 0), (24, .ireturn, 25, 0, 0, 0, 0, 0)]])
def hc_X2_init : hC := (1, [[(0, .aload_n 0, 1, 0, 0, 0, 0, 0), (1, .invokespecial 3, 4, 9998, 0, 0, 355, 0), (4, .aload_n 0, 5, 0, 0, 0, 0, 0), (5, .bipush 40, 7, 0, 0, 0, 0, 40), (7, .newarray .int, 9, 10000, 0, 0, 0, 0), (9, .putfield 9, 12, 2, 0, 1, 356, 0), (12, .aload_n 0, 13, 0, 0, 0, 0, 0), (13, .bipush 40, 15, 0, 0, 0, 0, 40), (15, .newarray .int, 17, 10000, 0, 0, 0, 0)], [(17, .putfield 15, 20, 2, 2, 1, 359, 0), (20, .aload_n 0, 21, 0, 0, 0, 0, 0), (21, .bipush 40, 23, 0, 0, 0, 0, 40), (23, .newarray .int, 25, 10000, 0, 0, 0, 0), (25, .putfield 18, 28, 2, 4, 1, 361, 0), (28, .aload_n 0, 29, 0, 0, 0, 0, 0), (29, .bipush 40, 31, 0, 0, 0, 0, 40), (31, .newarray .int, 33, 10000, 0, 0, 0, 0)], [(33, .putfield 21, 36, 2, 5, 1, 362, 0), (36, .return_, 37, 0, 0, 0, 0, 0)]])
def hc_X2_isCycleInside : hC := (4, [[(0, .aload_n 0, 1, 0, 0, 0, 0, 0), (1, .getfield 15, 4, 2, 2, 1, 359, 0), (4, .aload_n 0, 5, 0, 0, 0, 0, 0), (5, .getfield 28, 8, 2, 3, 0, 360, 0), (8, .iconst 3, 9, 0, 0, 0, 0, 3), (9, .isub, 10, 0, 0, 0, 0, 0), (10, .iaload, 11, 0, 0, 0, 0, 0), (11, .aload_n 0, 12, 0, 0, 0, 0, 0), (12, .getfield 15, 15, 2, 2, 1, 359, 0), (15, .aload_n 0, 16, 0, 0, 0, 0, 0)], [(16, .getfield 28, 19, 2, 3, 0, 360, 0), (19, .iconst 4, 20, 0, 0, 0, 0, 4), (20, .isub, 21, 0, 0, 0, 0, 0), (21, .iaload, 22, 0, 0, 0, 0, 0), (22, .isub, 23, 0, 0, 0, 0, 0), (23, .invokestatic 53, 26, 1, 1, 0, 701, 1), (26, .istore_n 1, 27, 1, 0, 0, 0, 0), (27, .aload_n 0, 28, 0, 0, 0, 0, 0), (28, .getfield 15, 31, 2, 2, 1, 359, 0), (31, .aload_n 0, 32, 0, 0, 0, 0, 0)], [(32, .getfield 28, 35, 2, 3, 0, 360, 0), (35, .iconst 2, 36, 0, 0, 0, 0, 2), (36, .isub, 37, 0, 0, 0, 0, 0), (37, .iaload, 38, 0, 0, 0, 0, 0), (38, .aload_n 0, 39, 0, 0, 0, 0, 0), (39, .getfield 15, 42, 2, 2, 1, 359, 0), (42, .aload_n 0, 43, 0, 0, 0, 0, 0), (43, .getfield 28, 46, 2, 3, 0, 360, 0), (46, .iconst 3, 47, 0, 0, 0, 0, 3), (47, .isub, 48, 0, 0, 0, 0, 0)], [(48, .iaload, 49, 0, 0, 0, 0, 0), (49, .isub, 50, 0, 0, 0, 0, 0), (50, .invokestatic 53, 53, 1, 1, 0, 701, 1), (53, .istore_n 2, 54, 2, 0, 0, 0, 0), (54, .aload_n 0, 55, 0, 0, 0, 0, 0), (55, .getfield 15, 58, 2, 2, 1, 359, 0), (58, .aload_n 0, 59, 0, 0, 0, 0, 0), (59, .getfield 28, 62, 2, 3, 0, 360, 0), (62, .iconst 1, 63, 0, 0, 0, 0, 1), (63, .isub, 64, 0, 0, 0, 0, 0)], [(64, .iaload, 65, 0, 0, 0, 0, 0), (65, .aload_n 0, 66, 0, 0, 0, 0, 0), (66, .getfield 15, 69, 2, 2, 1, 359, 0), (69, .aload_n 0, 70, 0, 0, 0, 0, 0), (70, .getfield 28, 73, 2, 3, 0, 360, 0), (73, .iconst 2, 74, 0, 0, 0, 0, 2), (74, .isub, 75, 0, 0, 0, 0, 0), (75, .iaload, 76, 0, 0, 0, 0, 0), (76, .isub, 77, 0, 0, 0, 0, 0), (77, .invokestatic 53, 80, 1, 1, 0, 701, 1)], [(80, .istore_n 3, 81, 3, 0, 0, 0, 0), (81, .iload_n 2, 82, 2, 0, 0, 0, 0), (82, .iload_n 1, 83, 1, 0, 0, 0, 0), (83, .if_icmp .gt 12, 86, 95, 0, 0, 0, 0), (86, .iload_n 2, 87, 2, 0, 0, 0, 0), (87, .iload_n 3, 88, 3, 0, 0, 0, 0), (88, .if_icmp .gt 7, 91, 95, 0, 0, 0, 0), (91, .iconst 1, 92, 0, 0, 0, 0, 1), (92, .goto 4, 95, 96, 0, 0, 0, 0), (95, .iconst 0, 96, 0, 0, 0, 0, 0)], [(96, .ireturn, 97, 0, 0, 2, 0, 0)]])
def hc_X3_takesLetter : hC := (2, [[(0, .aload_n 0, 1, 0, 0, 0, 0, 0), (1, .iload_n 1, 2, 1, 0, 0, 0, 0), (2, .invokestatic 73, 5, 31, 1, 0, 467, 1), (5, .putfield 76, 8, 3, 2, 0, 178, 0), (8, .aload_n 0, 9, 0, 0, 0, 0, 0), (9, .getfield 76, 12, 3, 2, 0, 178, 0), (12, .ifCond .lt 29, 15, 41, 0, 0, 0, 0), (15, .aload_n 0, 16, 0, 0, 0, 0, 0)], [(16, .aload_n 0, 17, 0, 0, 0, 0, 0), (17, .getfield 76, 20, 3, 2, 0, 178, 0), (20, .invokevirtual 47, 23, 30, 1, 3, 470, 1), (23, .ifCond .ne 18, 26, 41, 0, 0, 0, 0), (26, .aload_n 0, 27, 0, 0, 0, 0, 0), (27, .getfield 76, 30, 3, 2, 0, 178, 0), (30, .ifCond .ne 13, 33, 43, 0, 0, 0, 0)], [(33, .aload_n 0, 34, 0, 0, 0, 0, 0), (34, .iconst 1, 35, 0, 0, 0, 0, 1), (35, .invokevirtual 47, 38, 30, 1, 3, 470, 1), (38, .ifCond .eq 5, 41, 43, 0, 0, 0, 0), (41, .iconst 0, 42, 0, 0, 0, 0, 0), (42, .ireturn, 43, 0, 0, 2, 0, 0), (43, .aload_n 0, 44, 0, 0, 0, 0, 0), (44, .dup, 45, 0, 0, 0, 0, 0), (45, .getfield 25, 48, 3, 3, 0, 179, 0)], [(48, .iconst 1, 49, 0, 0, 0, 0, 1), (49, .aload_n 0, 50, 0, 0, 0, 0, 0), (50, .getfield 76, 53, 3, 2, 0, 178, 0), (53, .ishl, 54, 0, 0, 0, 0, 0), (54, .ior, 55, 0, 0, 0, 0, 0), (55, .putfield 25, 58, 3, 3, 0, 179, 0), (58, .aload_n 0, 59, 0, 0, 0, 0, 0), (59, .iconst 1, 60, 0, 0, 0, 0, 1), (60, .putfield 21, 63, 3, 1, 0, 177, 0), (63, .iconst 1, 64, 0, 0, 0, 0, 1)], [(64, .ireturn, 65, 0, 0, 2, 0, 0)]])
def hc_X4_init : hC := (1, [[(0, .aload_n 0, 1, 0, 0, 0, 0, 0), (1, .invokespecial 3, 4, 9998, 0, 0, 327, 0), (4, .aload_n 0, 5, 0, 0, 0, 0, 0), (5, .bipush 6, 7, 0, 0, 0, 0, 6), (7, .newarray .int, 9, 10000, 0, 0, 0, 0), (9, .putfield 9, 12, 4, 0, 1, 328, 0), (12, .aload_n 0, 13, 0, 0, 0, 0, 0), (13, .bipush 6, 15, 0, 0, 0, 0, 6), (15, .newarray .int, 17, 10000, 0, 0, 0, 0)], [(17, .putfield 15, 20, 4, 1, 1, 330, 0), (20, .aload_n 0, 21, 0, 0, 0, 0, 0), (21, .bipush 6, 23, 0, 0, 0, 0, 6), (23, .newarray .int, 25, 10000, 0, 0, 0, 0), (25, .putfield 18, 28, 4, 2, 1, 332, 0), (28, .aload_n 0, 29, 0, 0, 0, 0, 0), (29, .bipush 6, 31, 0, 0, 0, 0, 6), (31, .newarray .int, 33, 10000, 0, 0, 0, 0)], [(33, .putfield 21, 36, 4, 3, 1, 334, 0), (36, .return_, 37, 0, 0, 0, 0, 0)]])
def hc_X5_init : hC := (1, [[(0, .aload_n 0, 1, 0, 0, 0, 0, 0), (1, .invokespecial 3, 4, 9998, 0, 0, 119, 0), (4, .aload_n 0, 5, 0, 0, 0, 0, 0), (5, .invokevirtual 9, 8, 36, 0, 5, 120, 0), (8, .return_, 9, 0, 0, 0, 0, 0)]])
def hc_X5_mayBe : hC := (3, [[(0, .iload_n 1, 1, 1, 0, 0, 0, 0), (1, .tableswitch 84 0 4 #[35, 44, 58, 66, 75], 36, 0, 0, 0, 0, 0)], [], [(36, .iload_n 2, 37, 2, 0, 0, 0, 0), (37, .bipush 40, 39, 0, 0, 0, 0, 40), (39, .bipush 120, 41, 0, 0, 0, 0, 120), (41, .invokestatic 33, 44, 52, 3, 0, 486, 1), (44, .ireturn, 45, 0, 0, 2, 0, 0), (45, .iload_n 2, 46, 2, 0, 0, 0, 0), (46, .aload_n 0, 47, 0, 0, 0, 0, 0), (47, .getfield 14, 50, 5, 0, 0, 124, 0)], [(50, .iconst 1, 51, 0, 0, 0, 0, 1), (51, .iadd, 52, 0, 0, 0, 0, 0), (52, .sipush 200, 55, 0, 0, 0, 0, 200), (55, .invokestatic 33, 58, 52, 3, 0, 486, 1), (58, .ireturn, 59, 0, 0, 2, 0, 0), (59, .iload_n 2, 60, 2, 0, 0, 0, 0), (60, .iconst 1, 61, 0, 0, 0, 0, 1), (61, .bipush 10, 63, 0, 0, 0, 0, 10), (63, .invokestatic 33, 66, 52, 3, 0, 486, 1)], [(66, .ireturn, 67, 0, 0, 2, 0, 0), (67, .iload_n 2, 68, 2, 0, 0, 0, 0), (68, .bipush 11, 70, 0, 0, 0, 0, 11), (70, .bipush 40, 72, 0, 0, 0, 0, 40), (72, .invokestatic 33, 75, 52, 3, 0, 486, 1), (75, .ireturn, 76, 0, 0, 2, 0, 0), (76, .iload_n 2, 77, 2, 0, 0, 0, 0), (77, .bipush 36, 79, 0, 0, 0, 0, 36), (79, .bipush 108, 81, 0, 0, 0, 0, 108)], [(81, .invokestatic 33, 84, 52, 3, 0, 486, 1), (84, .ireturn, 85, 0, 0, 2, 0, 0), (85, .iload_n 2, 86, 2, 0, 0, 0, 0), (86, .iconst 1, 87, 0, 0, 0, 0, 1), (87, .bipush 9, 89, 0, 0, 0, 0, 9), (89, .invokestatic 33, 92, 52, 3, 0, 486, 1), (92, .ireturn, 93, 0, 0, 2, 0, 0)]])
def hc_X6_behindBlanks : hC := (3, [[(0, .iload_n 1, 1, 1, 0, 0, 0, 0), (1, .istore_n 2, 2, 2, 0, 0, 0, 0), (2, .iload_n 2, 3, 2, 0, 0, 0, 0), (3, .aload_n 0, 4, 0, 0, 0, 0, 0), (4, .getfield 15, 7, 6, 1, 0, 158, 0), (7, .if_icmp .ge 19, 10, 26, 0, 0, 0, 0), (10, .aload_n 0, 11, 0, 0, 0, 0, 0), (11, .iload_n 2, 12, 2, 0, 0, 0, 0), (12, .invokevirtual 19, 15, 39, 1, 6, 445, 1), (15, .bipush 32, 17, 0, 0, 0, 0, 32)], [(17, .if_icmp .ne 9, 20, 26, 0, 0, 0, 0), (20, .iinc 2 1, 23, 2, 0, 0, 0, 1), (23, .goto (-21), 26, 2, 0, 0, 0, 0), (26, .iload_n 2, 27, 2, 0, 0, 0, 0), (27, .ireturn, 28, 0, 0, 0, 0, 0)]])
def hc_X6_init : hC := (1, [[(0, .aload_n 0, 1, 0, 0, 0, 0, 0), (1, .invokespecial 3, 4, 9998, 0, 0, 156, 0), (4, .aload_n 0, 5, 0, 0, 0, 0, 0), (5, .bipush 80, 7, 0, 0, 0, 0, 80), (7, .newarray .int, 9, 10000, 0, 0, 0, 0), (9, .putfield 9, 12, 6, 0, 1, 157, 0), (12, .return_, 13, 0, 0, 0, 0, 0)]])
def hc_X6_isFigureAt : hC := (2, [[(0, .aload_n 0, 1, 0, 0, 0, 0, 0), (1, .iload_n 1, 2, 1, 0, 0, 0, 0), (2, .invokevirtual 19, 5, 39, 1, 6, 445, 1), (5, .bipush 48, 7, 0, 0, 0, 0, 48), (7, .bipush 57, 9, 0, 0, 0, 0, 57), (9, .invokestatic 23, 12, 52, 3, 0, 457, 1), (12, .ireturn, 13, 0, 0, 2, 0, 0)]])
def hc_X7_add : hC := (2, [[(0, .aload_n 0, 1, 0, 0, 0, 0, 0), (1, .getfield 15, 4, 7, 1, 0, 274, 0), (4, .ifCond .lt 12, 7, 16, 0, 0, 0, 0), (7, .aload_n 0, 8, 0, 0, 0, 0, 0), (8, .getfield 15, 11, 7, 1, 0, 274, 0), (11, .bipush 40, 13, 0, 0, 0, 0, 40), (13, .if_icmp .lt 8, 16, 21, 0, 0, 0, 0)], [(16, .aload_n 0, 17, 0, 0, 0, 0, 0), (17, .iconst 0, 18, 0, 0, 0, 0, 0), (18, .putfield 15, 21, 7, 1, 0, 274, 0), (21, .aload_n 0, 22, 0, 0, 0, 0, 0), (22, .getfield 9, 25, 7, 0, 1, 273, 0), (25, .aload_n 0, 26, 0, 0, 0, 0, 0), (26, .getfield 15, 29, 7, 1, 0, 274, 0), (29, .iload_n 1, 30, 1, 0, 0, 0, 0), (30, .iastore, 31, 0, 0, 0, 0, 0), (31, .aload_n 0, 32, 0, 0, 0, 0, 0)], [(32, .aload_n 0, 33, 0, 0, 0, 0, 0), (33, .getfield 15, 36, 7, 1, 0, 274, 0), (36, .iconst 1, 37, 0, 0, 0, 0, 1), (37, .iadd, 38, 0, 0, 0, 0, 0), (38, .bipush 40, 40, 0, 0, 0, 0, 40), (40, .if_icmp .ne 7, 43, 47, 0, 0, 0, 0), (43, .iconst 0, 44, 0, 0, 0, 0, 0), (44, .goto 9, 47, 53, 0, 0, 0, 0), (47, .aload_n 0, 48, 0, 0, 0, 0, 0)], [(48, .getfield 15, 51, 7, 1, 0, 274, 0), (51, .iconst 1, 52, 0, 0, 0, 0, 1), (52, .iadd, 53, 0, 0, 0, 0, 0), (53, .putfield 15, 56, 7, 1, 0, 274, 0), (56, .aload_n 0, 57, 0, 0, 0, 0, 0), (57, .bipush 40, 59, 0, 0, 0, 0, 40), (59, .aload_n 0, 60, 0, 0, 0, 0, 0), (60, .getfield 19, 63, 7, 2, 0, 275, 0), (63, .iconst 1, 64, 0, 0, 0, 0, 1)], [(64, .iadd, 65, 0, 0, 0, 0, 0), (65, .invokestatic 28, 68, 5, 2, 0, 627, 1), (68, .putfield 19, 71, 7, 2, 0, 275, 0), (71, .return_, 72, 0, 0, 0, 0, 0)]])
def hc_X7_become : hC := (2, [[(0, .aload_n 1, 1, 1, 0, 0, 0, 0), (1, .getfield 9, 4, 7, 0, 1, 273, 0), (4, .iconst 0, 5, 0, 0, 0, 0, 0), (5, .aload_n 0, 6, 0, 0, 0, 0, 0), (6, .getfield 9, 9, 7, 0, 1, 273, 0), (9, .iconst 0, 10, 0, 0, 0, 0, 0), (10, .bipush 40, 12, 0, 0, 0, 0, 40), (12, .invokestatic 22, 15, 9999, 0, 0, 539, 0), (15, .aload_n 0, 16, 0, 0, 0, 0, 0)], [(16, .aload_n 1, 17, 1, 0, 0, 0, 0), (17, .getfield 15, 20, 7, 1, 0, 274, 0), (20, .putfield 15, 23, 7, 1, 0, 274, 0), (23, .aload_n 0, 24, 0, 0, 0, 0, 0), (24, .aload_n 1, 25, 1, 0, 0, 0, 0), (25, .getfield 19, 28, 7, 2, 0, 275, 0), (28, .putfield 19, 31, 7, 2, 0, 275, 0), (31, .return_, 32, 0, 0, 0, 0, 0)]])
def hc_X7_init : hC := (1, [[(0, .aload_n 0, 1, 0, 0, 0, 0, 0), (1, .invokespecial 3, 4, 9998, 0, 0, 272, 0), (4, .aload_n 0, 5, 0, 0, 0, 0, 0), (5, .bipush 40, 7, 0, 0, 0, 0, 40), (7, .newarray .int, 9, 10000, 0, 0, 0, 0), (9, .putfield 9, 12, 7, 0, 1, 273, 0), (12, .return_, 13, 0, 0, 0, 0, 0)]])
def hc_X7_speedAgo : hC := (2, [[(0, .iload_n 1, 1, 1, 0, 0, 0, 0), (1, .ifCond .lt 11, 4, 12, 0, 0, 0, 0), (4, .iload_n 1, 5, 1, 0, 0, 0, 0), (5, .aload_n 0, 6, 0, 0, 0, 0, 0), (6, .getfield 19, 9, 7, 2, 0, 275, 0), (9, .if_icmp .lt 6, 12, 15, 0, 0, 0, 0), (12, .bipush (-9), 14, 0, 0, 0, 0, (-9)), (14, .ireturn, 15, 0, 0, 0, 0, 0), (15, .aload_n 0, 16, 0, 0, 0, 0, 0)], [(16, .getfield 9, 19, 7, 0, 1, 273, 0), (19, .aload_n 0, 20, 0, 0, 0, 0, 0), (20, .getfield 15, 23, 7, 1, 0, 274, 0), (23, .iconst 1, 24, 0, 0, 0, 0, 1), (24, .isub, 25, 0, 0, 0, 0, 0), (25, .iload_n 1, 26, 1, 0, 0, 0, 0), (26, .isub, 27, 0, 0, 0, 0, 0), (27, .bipush 40, 29, 0, 0, 0, 0, 40), (29, .invokestatic 34, 32, 3, 2, 0, 661, 1)], [(32, .iaload, 33, 0, 0, 0, 0, 0), (33, .ireturn, 34, 0, 0, 0, 0, 0)]])
def hc_X8_drive : hC := (2, [[(0, .aload_n 0, 1, 0, 0, 0, 0, 0), (1, .getfield 27, 4, 8, 4, 0, 216, 0), (4, .iconst 0, 5, 0, 0, 0, 0, 0), (5, .bipush 9, 7, 0, 0, 0, 0, 9), (7, .iload_n 1, 8, 1, 0, 0, 0, 0), (8, .isub, 9, 0, 0, 0, 0, 0), (9, .invokestatic 106, 12, 4, 2, 0, 586, 1), (12, .imul, 13, 0, 0, 0, 0, 0), (13, .bipush 10, 15, 0, 0, 0, 0, 10), (15, .aload_n 0, 16, 0, 0, 0, 0, 0)], [(16, .getfield 39, 19, 8, 8, 0, 223, 0), (19, .isub, 20, 0, 0, 0, 0, 0), (20, .imul, 21, 0, 0, 0, 0, 0), (21, .bipush 90, 23, 0, 0, 0, 0, 90), (23, .aload_n 0, 24, 0, 0, 0, 0, 0), (24, .getfield 21, 27, 8, 2, 0, 214, 0), (27, .isub, 28, 0, 0, 0, 0, 0), (28, .imul, 29, 0, 0, 0, 0, 0), (29, .sipush 1620, 32, 0, 0, 0, 0, 1620)], [(32, .idiv, 33, 0, 0, 0, 0, 0), (33, .ireturn, 34, 0, 0, 0, 0, 0)]])
def hc_X8_error : hC := (2, [[(0, .aload_n 0, 1, 0, 0, 0, 0, 0), (1, .invokevirtual 129, 4, 41, 0, 8, 600, 1), (4, .istore_n 1, 5, 1, 0, 0, 0, 0), (5, .iload_n 1, 6, 1, 0, 0, 0, 0), (6, .bipush 36, 8, 0, 0, 0, 0, 36), (8, .iload_n 1, 9, 1, 0, 0, 0, 0), (9, .isub, 10, 0, 0, 0, 0, 0), (10, .invokestatic 126, 13, 5, 2, 0, 585, 1), (13, .ireturn, 14, 0, 0, 0, 0, 0)]])
def hc_X8_init : hC := (1, [[(0, .aload_n 0, 1, 0, 0, 0, 0, 0), (1, .invokespecial 3, 4, 9998, 0, 0, 203, 0), (4, .aload_n 0, 5, 0, 0, 0, 0, 0), (5, .invokevirtual 9, 8, 45, 0, 8, 204, 0), (8, .return_, 9, 0, 0, 0, 0, 0)]])
def hc_X8_nearer : hC := (3, [[(0, .iload_n 0, 1, 0, 0, 0, 0, 0), (1, .iload_n 1, 2, 1, 0, 0, 0, 0), (2, .if_icmp .ge 13, 5, 15, 0, 0, 0, 0), (5, .iload_n 1, 6, 1, 0, 0, 0, 0), (6, .iload_n 0, 7, 0, 0, 0, 0, 0), (7, .iload_n 2, 8, 2, 0, 0, 0, 0), (8, .iadd, 9, 0, 0, 0, 0, 0), (9, .invokestatic 126, 12, 5, 2, 0, 585, 1), (12, .goto 10, 15, 22, 0, 0, 0, 0), (15, .iload_n 1, 16, 1, 0, 0, 0, 0)], [(16, .iload_n 0, 17, 0, 0, 0, 0, 0), (17, .iload_n 2, 18, 2, 0, 0, 0, 0), (18, .isub, 19, 0, 0, 0, 0, 0), (19, .invokestatic 106, 22, 4, 2, 0, 586, 1), (22, .ireturn, 23, 0, 0, 0, 0, 0)]])
def hc_X8_nextMode : hC := (4, [[(0, .aload_n 0, 1, 0, 0, 0, 0, 0), (1, .getfield 14, 4, 8, 0, 0, 208, 0), (4, .iconst 1, 5, 0, 0, 0, 0, 1), (5, .if_icmp .eq 19, 8, 24, 0, 0, 0, 0), (8, .aload_n 0, 9, 0, 0, 0, 0, 0), (9, .getfield 14, 12, 8, 0, 0, 208, 0), (12, .iconst 2, 13, 0, 0, 0, 0, 2), (13, .if_icmp .eq 11, 16, 24, 0, 0, 0, 0)], [(16, .aload_n 0, 17, 0, 0, 0, 0, 0), (17, .getfield 14, 20, 8, 0, 0, 208, 0), (20, .iconst 3, 21, 0, 0, 0, 0, 3), (21, .if_icmp .ne 7, 24, 28, 0, 0, 0, 0), (24, .iconst 1, 25, 0, 0, 0, 0, 1), (25, .goto 4, 28, 29, 0, 0, 0, 0), (28, .iconst 0, 29, 0, 0, 0, 0, 0), (29, .istore_n 2, 30, 2, 0, 0, 0, 0), (30, .aload_n 0, 31, 0, 0, 0, 0, 0), (31, .aload_n 1, 32, 1, 0, 0, 0, 0)], [(32, .getfield 109, 35, 5, 4, 0, 135, 0), (35, .invokevirtual 116, 38, 44, 1, 8, 577, 1), (38, .istore_n 3, 39, 3, 0, 0, 0, 0), (39, .aload_n 0, 40, 0, 0, 0, 0, 0), (40, .getfield 18, 43, 8, 1, 0, 211, 0), (43, .aload_n 1, 44, 1, 0, 0, 0, 0), (44, .getfield 120, 47, 5, 1, 0, 129, 0), (47, .if_icmp .le 17, 50, 64, 0, 0, 0, 0)], [(50, .iload_n 2, 51, 2, 0, 0, 0, 0), (51, .ifCond .ne 11, 54, 62, 0, 0, 0, 0), (54, .aload_n 0, 55, 0, 0, 0, 0, 0), (55, .getfield 14, 58, 8, 0, 0, 208, 0), (58, .iconst 4, 59, 0, 0, 0, 0, 4), (59, .if_icmp .ne 5, 62, 64, 0, 0, 0, 0), (62, .iconst 5, 63, 0, 0, 0, 0, 5), (63, .ireturn, 64, 0, 0, 0, 0, 0)], [(64, .iload_n 2, 65, 2, 0, 0, 0, 0), (65, .ifCond .eq 32, 68, 97, 0, 0, 0, 0), (68, .aload_n 0, 69, 0, 0, 0, 0, 0), (69, .getfield 46, 72, 8, 10, 0, 227, 0), (72, .ifCond .eq 23, 75, 95, 0, 0, 0, 0), (75, .aload_n 0, 76, 0, 0, 0, 0, 0), (76, .getfield 52, 79, 8, 12, 0, 230, 0), (79, .iconst 2, 80, 0, 0, 0, 0, 2)], [(80, .if_icmp .ge 15, 83, 95, 0, 0, 0, 0), (83, .aload_n 0, 84, 0, 0, 0, 0, 0), (84, .getfield 55, 87, 8, 13, 0, 231, 0), (87, .iconst 4, 88, 0, 0, 0, 0, 4), (88, .if_icmp .ge 7, 91, 95, 0, 0, 0, 0), (91, .iload_n 3, 92, 3, 0, 0, 0, 0), (92, .ifCond .eq 5, 95, 97, 0, 0, 0, 0), (95, .iconst 4, 96, 0, 0, 0, 0, 4)], [(96, .ireturn, 97, 0, 0, 0, 0, 0), (97, .aload_n 0, 98, 0, 0, 0, 0, 0), (98, .getfield 14, 101, 8, 0, 0, 208, 0), (101, .tableswitch 186 0 4 #[35, 74, 95, 138, 164], 136, 0, 0, 0, 0, 0)], [], [(136, .aload_n 0, 137, 0, 0, 0, 0, 0), (137, .getfield 46, 140, 8, 10, 0, 227, 0), (140, .ifCond .eq 33, 143, 173, 0, 0, 0, 0), (143, .aload_n 0, 144, 0, 0, 0, 0, 0)], [(144, .getfield 49, 147, 8, 11, 0, 229, 0), (147, .iconst 3, 148, 0, 0, 0, 0, 3), (148, .if_icmp .lt 25, 151, 173, 0, 0, 0, 0), (151, .aload_n 0, 152, 0, 0, 0, 0, 0), (152, .getfield 55, 155, 8, 13, 0, 231, 0), (155, .ifCond .ne 18, 158, 173, 0, 0, 0, 0), (158, .iload_n 3, 159, 3, 0, 0, 0, 0), (159, .ifCond .ne 14, 162, 173, 0, 0, 0, 0)], [(162, .aload_n 0, 163, 0, 0, 0, 0, 0), (163, .getfield 61, 166, 8, 15, 0, 233, 0), (166, .ifCond .ne 7, 169, 173, 0, 0, 0, 0), (169, .iconst 1, 170, 0, 0, 0, 0, 1), (170, .goto 4, 173, 174, 0, 0, 0, 0), (173, .iconst 0, 174, 0, 0, 0, 0, 0), (174, .ireturn, 175, 0, 0, 0, 0, 0), (175, .iconst 5, 176, 0, 0, 0, 0, 5)], [(176, .aload_n 0, 177, 0, 0, 0, 0, 0), (177, .getfield 18, 180, 8, 1, 0, 211, 0), (180, .imul, 181, 0, 0, 0, 0, 0), (181, .iconst 2, 182, 0, 0, 0, 0, 2), (182, .aload_n 1, 183, 1, 0, 0, 0, 0), (183, .getfield 123, 186, 5, 0, 0, 126, 0), (186, .imul, 187, 0, 0, 0, 0, 0), (187, .if_icmp .lt 7, 190, 194, 0, 0, 0, 0), (190, .iconst 2, 191, 0, 0, 0, 0, 2), (191, .goto 4, 194, 195, 0, 0, 0, 0)], [(194, .iconst 1, 195, 0, 0, 0, 0, 1), (195, .ireturn, 196, 0, 0, 0, 0, 0), (196, .aload_n 0, 197, 0, 0, 0, 0, 0), (197, .getfield 18, 200, 8, 1, 0, 211, 0), (200, .aload_n 1, 201, 1, 0, 0, 0, 0), (201, .getfield 123, 204, 5, 0, 0, 126, 0), (204, .if_icmp .lt 5, 207, 209, 0, 0, 0, 0), (207, .iconst 3, 208, 0, 0, 0, 0, 3)], [(208, .ireturn, 209, 0, 0, 0, 0, 0), (209, .aload_n 0, 210, 0, 0, 0, 0, 0), (210, .getfield 27, 213, 8, 4, 0, 216, 0), (213, .aload_n 1, 214, 1, 0, 0, 0, 0), (214, .getfield 64, 217, 5, 2, 0, 131, 0), (217, .if_icmp .ge 20, 220, 237, 0, 0, 0, 0), (220, .iconst 5, 221, 0, 0, 0, 0, 5), (221, .aload_n 0, 222, 0, 0, 0, 0, 0), (222, .getfield 18, 225, 8, 1, 0, 211, 0)], [(225, .imul, 226, 0, 0, 0, 0, 0), (226, .aload_n 1, 227, 1, 0, 0, 0, 0), (227, .getfield 123, 230, 5, 0, 0, 126, 0), (230, .if_icmp .ge 7, 233, 237, 0, 0, 0, 0), (233, .iconst 4, 234, 0, 0, 0, 0, 4), (234, .goto 4, 237, 238, 0, 0, 0, 0), (237, .iconst 2, 238, 0, 0, 0, 0, 2), (238, .ireturn, 239, 0, 0, 0, 0, 0), (239, .aload_n 0, 240, 0, 0, 0, 0, 0)], [(240, .getfield 21, 243, 8, 2, 0, 214, 0), (243, .ifCond .ne 20, 246, 263, 0, 0, 0, 0), (246, .aload_n 0, 247, 0, 0, 0, 0, 0), (247, .getfield 18, 250, 8, 1, 0, 211, 0), (250, .aload_n 1, 251, 1, 0, 0, 0, 0), (251, .getfield 123, 254, 5, 0, 0, 126, 0), (254, .iconst 5, 255, 0, 0, 0, 0, 5), (255, .isub, 256, 0, 0, 0, 0, 0)], [(256, .if_icmp .ge 7, 259, 263, 0, 0, 0, 0), (259, .iconst 2, 260, 0, 0, 0, 0, 2), (260, .goto 4, 263, 264, 0, 0, 0, 0), (263, .iconst 3, 264, 0, 0, 0, 0, 3), (264, .ireturn, 265, 0, 0, 0, 0, 0), (265, .aload_n 0, 266, 0, 0, 0, 0, 0), (266, .getfield 18, 269, 8, 1, 0, 211, 0), (269, .ifCond .ne 16, 272, 285, 0, 0, 0, 0)], [(272, .aload_n 0, 273, 0, 0, 0, 0, 0), (273, .getfield 21, 276, 8, 2, 0, 214, 0), (276, .bipush 90, 278, 0, 0, 0, 0, 90), (278, .if_icmp .ne 7, 281, 285, 0, 0, 0, 0), (281, .iconst 0, 282, 0, 0, 0, 0, 0), (282, .goto 4, 285, 286, 0, 0, 0, 0), (285, .iconst 4, 286, 0, 0, 0, 0, 4), (286, .ireturn, 287, 0, 0, 0, 0, 0), (287, .aload_n 0, 288, 0, 0, 0, 0, 0)], [(288, .getfield 14, 291, 8, 0, 0, 208, 0), (291, .ireturn, 292, 0, 0, 0, 0, 0)]])
def hc_X8_pitchAim : hC := (2, [[(0, .aload_n 0, 1, 0, 0, 0, 0, 0), (1, .getfield 14, 4, 8, 0, 0, 208, 0), (4, .tableswitch 59 1 3 #[28, 31, 33], 32, 0, 0, 0, 0, 0)], [], [(32, .bipush 20, 34, 0, 0, 0, 0, 20), (34, .ireturn, 35, 0, 0, 0, 0, 0), (35, .iconst 0, 36, 0, 0, 0, 0, 0), (36, .ireturn, 37, 0, 0, 0, 0, 0), (37, .iconst 0, 38, 0, 0, 0, 0, 0), (38, .bipush 90, 40, 0, 0, 0, 0, 90), (40, .aload_n 0, 41, 0, 0, 0, 0, 0), (41, .getfield 21, 44, 8, 2, 0, 214, 0), (44, .aload_n 0, 45, 0, 0, 0, 0, 0), (45, .getfield 18, 48, 8, 1, 0, 211, 0)], [(48, .aload_n 1, 49, 1, 0, 0, 0, 0), (49, .getfield 123, 52, 5, 0, 0, 126, 0), (52, .isub, 53, 0, 0, 0, 0, 0), (53, .iconst 4, 54, 0, 0, 0, 0, 4), (54, .idiv, 55, 0, 0, 0, 0, 0), (55, .iadd, 56, 0, 0, 0, 0, 0), (56, .invokestatic 126, 59, 5, 2, 0, 585, 1), (59, .invokestatic 106, 62, 4, 2, 0, 586, 1), (62, .ireturn, 63, 0, 0, 0, 0, 0), (63, .bipush 90, 65, 0, 0, 0, 0, 90)], [(65, .ireturn, 66, 0, 0, 0, 0, 0)]])
def hc_X8_turn : hC := (3, [[(0, .aload_n 0, 1, 0, 0, 0, 0, 0), (1, .getfield 14, 4, 8, 0, 0, 208, 0), (4, .ifCond .ne 16, 7, 20, 0, 0, 0, 0), (7, .aload_n 0, 8, 0, 0, 0, 0, 0), (8, .iload_n 1, 9, 1, 0, 0, 0, 0), (9, .invokevirtual 116, 12, 44, 1, 8, 577, 1), (12, .ifCond .eq 8, 15, 20, 0, 0, 0, 0), (15, .aload_n 0, 16, 0, 0, 0, 0, 0)], [(16, .iconst 1, 17, 0, 0, 0, 0, 1), (17, .putfield 61, 20, 8, 15, 2, 233, 0), (20, .aload_n 0, 21, 0, 0, 0, 0, 0), (21, .getfield 36, 24, 8, 7, 0, 222, 0), (24, .ifCond .eq 10, 27, 34, 0, 0, 0, 0), (27, .aload_n 0, 28, 0, 0, 0, 0, 0), (28, .getfield 14, 31, 8, 0, 0, 208, 0), (31, .ifCond .eq 8, 34, 39, 0, 0, 0, 0)], [(34, .aload_n 0, 35, 0, 0, 0, 0, 0), (35, .iconst 0, 36, 0, 0, 0, 0, 0), (36, .putfield 61, 39, 8, 15, 2, 233, 0), (39, .aload_n 0, 40, 0, 0, 0, 0, 0), (40, .getfield 61, 43, 8, 15, 0, 233, 0), (43, .ifCond .eq 22, 46, 65, 0, 0, 0, 0), (46, .aload_n 0, 47, 0, 0, 0, 0, 0), (47, .aload_n 0, 48, 0, 0, 0, 0, 0)], [(48, .getfield 36, 51, 8, 7, 0, 222, 0), (51, .ifCond .le 7, 54, 58, 0, 0, 0, 0), (54, .iconst (-1), 55, 0, 0, 0, 0, (-1)), (55, .goto 4, 58, 59, 0, 0, 0, 0), (58, .iconst 1, 59, 0, 0, 0, 0, 1), (59, .invokevirtual 132, 62, 47, 1, 8, 619, 0), (62, .goto 60, 65, 122, 0, 0, 0, 0)], [(65, .aload_n 0, 66, 0, 0, 0, 0, 0), (66, .getfield 14, 69, 8, 0, 0, 208, 0), (69, .iconst 3, 70, 0, 0, 0, 0, 3), (70, .if_icmp .gt 52, 73, 122, 0, 0, 0, 0), (73, .aload_n 0, 74, 0, 0, 0, 0, 0), (74, .getfield 58, 77, 8, 14, 0, 232, 0), (77, .iconst 3, 78, 0, 0, 0, 0, 3), (78, .if_icmp .lt 44, 81, 122, 0, 0, 0, 0)], [(81, .aload_n 0, 82, 0, 0, 0, 0, 0), (82, .invokevirtual 129, 85, 41, 0, 8, 600, 1), (85, .bipush 18, 87, 0, 0, 0, 0, 18), (87, .if_icmp .gt 7, 90, 94, 0, 0, 0, 0), (90, .iconst 1, 91, 0, 0, 0, 0, 1), (91, .goto 4, 94, 95, 0, 0, 0, 0), (94, .iconst (-1), 95, 0, 0, 0, 0, (-1)), (95, .istore_n 2, 96, 2, 0, 0, 0, 0)], [(96, .aload_n 0, 97, 0, 0, 0, 0, 0), (97, .getfield 36, 100, 8, 7, 0, 222, 0), (100, .iload_n 2, 101, 2, 0, 0, 0, 0), (101, .iadd, 102, 0, 0, 0, 0, 0), (102, .iload_n 1, 103, 1, 0, 0, 0, 0), (103, .if_icmp .gt 19, 106, 122, 0, 0, 0, 0), (106, .aload_n 0, 107, 0, 0, 0, 0, 0), (107, .getfield 36, 110, 8, 7, 0, 222, 0), (110, .iload_n 2, 111, 2, 0, 0, 0, 0), (111, .iadd, 112, 0, 0, 0, 0, 0)], [(112, .iload_n 1, 113, 1, 0, 0, 0, 0), (113, .ineg, 114, 0, 0, 0, 0, 0), (114, .if_icmp .lt 8, 117, 122, 0, 0, 0, 0), (117, .aload_n 0, 118, 0, 0, 0, 0, 0), (118, .iload_n 2, 119, 2, 0, 0, 0, 0), (119, .invokevirtual 132, 122, 47, 1, 8, 619, 0), (122, .return_, 123, 0, 0, 0, 0, 0)]])
def hc_X9_sees : hC := (4, [[(0, .iload_n 1, 1, 1, 0, 0, 0, 0), (1, .iconst 1, 2, 0, 0, 0, 0, 1), (2, .bipush 20, 4, 0, 0, 0, 0, 20), (4, .invokestatic 73, 7, 52, 3, 0, 421, 1), (7, .ifCond .eq 24, 10, 31, 0, 0, 0, 0), (10, .iload_n 2, 11, 2, 0, 0, 0, 0), (11, .iconst 0, 12, 0, 0, 0, 0, 0), (12, .bipush 40, 14, 0, 0, 0, 0, 40), (14, .invokestatic 73, 17, 52, 3, 0, 421, 1)], [(17, .ifCond .eq 14, 20, 31, 0, 0, 0, 0), (20, .iload_n 3, 21, 3, 0, 0, 0, 0), (21, .iconst 0, 22, 0, 0, 0, 0, 0), (22, .sipush 999, 25, 0, 0, 0, 0, 999), (25, .invokestatic 73, 28, 52, 3, 0, 421, 1), (28, .ifCond .ne 5, 31, 33, 0, 0, 0, 0), (31, .iconst (-1), 32, 0, 0, 0, 0, (-1))], [(32, .ireturn, 33, 0, 0, 0, 0, 0), (33, .aload_n 0, 34, 0, 0, 0, 0, 0), (34, .getfield 55, 37, 9, 7, 1, 393, 0), (37, .getfield 105, 40, 4, 4, 0, 337, 0), (40, .bipush 6, 42, 0, 0, 0, 0, 6), (42, .if_icmp .lt 6, 45, 48, 0, 0, 0, 0), (45, .bipush (-3), 47, 0, 0, 0, 0, (-3)), (47, .ireturn, 48, 0, 0, 0, 0, 0)], [(48, .aload_n 0, 49, 0, 0, 0, 0, 0), (49, .getfield 55, 52, 9, 7, 1, 393, 0), (52, .iload_n 1, 53, 1, 0, 0, 0, 0), (53, .iload_n 2, 54, 2, 0, 0, 0, 0), (54, .iload_n 3, 55, 3, 0, 0, 0, 0), (55, .invokevirtual 202, 58, 33, 3, 4, 733, 0), (58, .aload_n 0, 59, 0, 0, 0, 0, 0), (59, .getfield 55, 62, 9, 7, 1, 393, 0), (62, .getfield 105, 65, 4, 4, 0, 337, 0)], [(65, .ireturn, 66, 0, 0, 0, 0, 0)]])
def hc_X9_setting : hC := (2, [[(0, .iload_n 1, 1, 1, 0, 0, 0, 0), (1, .iconst 0, 2, 0, 0, 0, 0, 0), (2, .iconst 5, 3, 0, 0, 0, 0, 5), (3, .invokestatic 73, 6, 52, 3, 0, 421, 1), (6, .ifCond .eq 14, 9, 20, 0, 0, 0, 0), (9, .aload_n 0, 10, 0, 0, 0, 0, 0), (10, .getfield 10, 13, 9, 0, 1, 386, 0), (13, .iload_n 1, 14, 1, 0, 0, 0, 0), (14, .invokevirtual 155, 17, 37, 1, 5, 649, 1)], [(17, .goto 4, 20, 21, 0, 0, 0, 0), (20, .iconst (-1), 21, 0, 0, 0, 0, (-1)), (21, .ireturn, 22, 0, 0, 0, 0, 0)]])
def hc_X9_type : hC := (2, [[(0, .iload_n 1, 1, 1, 0, 0, 0, 0), (1, .iconst 0, 2, 0, 0, 0, 0, 0), (2, .sipush 255, 5, 0, 0, 0, 0, 255), (5, .invokestatic 73, 8, 52, 3, 0, 421, 1), (8, .ifCond .ne 5, 11, 13, 0, 0, 0, 0), (11, .iconst (-1), 12, 0, 0, 0, 0, (-1)), (12, .ireturn, 13, 0, 0, 0, 0, 0), (13, .aload_n 0, 14, 0, 0, 0, 0, 0), (14, .getfield 19, 17, 9, 1, 1, 387, 0)], [(17, .getfield 77, 20, 6, 1, 0, 159, 0), (20, .bipush 80, 22, 0, 0, 0, 0, 80), (22, .if_icmp .lt 6, 25, 28, 0, 0, 0, 0), (25, .bipush (-3), 27, 0, 0, 0, 0, (-3)), (27, .ireturn, 28, 0, 0, 0, 0, 0), (28, .aload_n 0, 29, 0, 0, 0, 0, 0), (29, .getfield 19, 32, 9, 1, 1, 387, 0)], [(32, .iload_n 1, 33, 1, 0, 0, 0, 0), (33, .invokevirtual 81, 36, 38, 1, 6, 424, 0), (36, .aload_n 0, 37, 0, 0, 0, 0, 0), (37, .getfield 19, 40, 9, 1, 1, 387, 0), (40, .getfield 77, 43, 6, 1, 0, 159, 0), (43, .ireturn, 44, 0, 0, 0, 0, 0)]])
def hc_X0_become : hC := (2, [[(0, .aload_n 0, 1, 0, 0, 0, 0, 0), (1, .getfield 12, 4, 0, 0, 1, 285, 0), (4, .aload_n 1, 5, 1, 0, 0, 0, 0), (5, .getfield 12, 8, 0, 0, 1, 285, 0), (8, .invokevirtual 36, 11, 42, 1, 8, 531, 0), (11, .aload_n 0, 12, 0, 0, 0, 0, 0), (12, .getfield 21, 15, 0, 1, 1, 287, 0), (15, .aload_n 1, 16, 1, 0, 0, 0, 0)], [(16, .getfield 21, 19, 0, 1, 1, 287, 0), (19, .invokevirtual 40, 22, 84, 1, 7, 535, 0), (22, .aload_n 0, 23, 0, 0, 0, 0, 0), (23, .aload_n 1, 24, 1, 0, 0, 0, 0), (24, .getfield 29, 27, 0, 2, 0, 289, 0), (27, .putfield 29, 30, 0, 2, 0, 289, 0), (30, .aload_n 0, 31, 0, 0, 0, 0, 0), (31, .aload_n 1, 32, 1, 0, 0, 0, 0)], [(32, .getfield 33, 35, 0, 3, 0, 291, 0), (35, .putfield 33, 38, 0, 3, 0, 291, 0), (38, .return_, 39, 0, 0, 0, 0, 0)]])
def hc_X0_init : hC := (1, [[(0, .aload_n 0, 1, 0, 0, 0, 0, 0), (1, .invokespecial 3, 4, 9998, 0, 0, 197, 0), (4, .aload_n 0, 5, 0, 0, 0, 0, 0), (5, .new 9, 8, 8, 0, 0, 198, 0), (8, .dup, 9, 0, 0, 0, 0, 0), (9, .invokespecial 11, 12, 89, 0, 8, 200, 0), (12, .putfield 12, 15, 0, 0, 1, 285, 0), (15, .aload_n 0, 16, 0, 0, 0, 0, 0)], [(16, .new 18, 19, 7, 0, 0, 267, 0), (19, .dup, 20, 0, 0, 0, 0, 0), (20, .invokespecial 20, 23, 85, 0, 7, 269, 0), (23, .putfield 21, 26, 0, 1, 1, 287, 0), (26, .return_, 27, 0, 0, 0, 0, 0)]])
def hc_X10_driveOf : hC := (3, [[(0, .bipush 9, 2, 0, 0, 0, 0, 9), (2, .aload_n 0, 3, 0, 0, 0, 0, 0), (3, .aload_n 1, 4, 1, 0, 0, 0, 0), (4, .invokevirtual 123, 7, 60, 1, 10, 978, 1), (7, .isub, 8, 0, 0, 0, 0, 0), (8, .istore_n 2, 9, 2, 0, 0, 0, 0), (9, .aload_n 1, 10, 1, 0, 0, 0, 0), (10, .iconst 4, 11, 0, 0, 0, 0, 4), (11, .iaload, 12, 0, 0, 0, 0, 0), (12, .iload_n 2, 13, 2, 0, 0, 0, 0), (13, .ifCond .ge 7, 16, 20, 0, 0, 0, 0)], [(16, .iconst 0, 17, 0, 0, 0, 0, 0), (17, .goto 4, 20, 21, 0, 0, 0, 0), (20, .iload_n 2, 21, 2, 0, 0, 0, 0), (21, .imul, 22, 0, 0, 0, 0, 0), (22, .bipush 10, 24, 0, 0, 0, 0, 10), (24, .aload_n 1, 25, 1, 0, 0, 0, 0), (25, .bipush 8, 27, 0, 0, 0, 0, 8), (27, .iaload, 28, 0, 0, 0, 0, 0), (28, .isub, 29, 0, 0, 0, 0, 0), (29, .imul, 30, 0, 0, 0, 0, 0), (30, .bipush 90, 32, 0, 0, 0, 0, 90)], [(32, .aload_n 1, 33, 1, 0, 0, 0, 0), (33, .iconst 2, 34, 0, 0, 0, 0, 2), (34, .iaload, 35, 0, 0, 0, 0, 0), (35, .isub, 36, 0, 0, 0, 0, 0), (36, .imul, 37, 0, 0, 0, 0, 0), (37, .sipush 1620, 40, 0, 0, 0, 0, 1620), (40, .idiv, 41, 0, 0, 0, 0, 0), (41, .ireturn, 42, 0, 0, 0, 0, 0)]])
def hc_X10_grids : hC := (2, [[(0, .aload_n 0, 1, 0, 0, 0, 0, 0), (1, .bipush 9, 3, 0, 0, 0, 0, 9), (3, .iload_n 1, 4, 1, 0, 0, 0, 0), (4, .invokevirtual 161, 7, 56, 2, 10, 943, 1), (7, .ireturn, 8, 0, 0, 0, 0, 0)]])
def hc_X10_looksUp : hC := (7, [[(0, .aload_n 1, 1, 1, 0, 0, 0, 0), (1, .bipush 14, 3, 0, 0, 0, 0, 14), (3, .iload_n 2, 4, 2, 0, 0, 0, 0), (4, .iconst 2, 5, 0, 0, 0, 0, 2), (5, .if_icmp .le 12, 8, 17, 0, 0, 0, 0), (8, .aload_n 1, 9, 1, 0, 0, 0, 0), (9, .bipush 14, 11, 0, 0, 0, 0, 14), (11, .iaload, 12, 0, 0, 0, 0, 0), (12, .iconst 1, 13, 0, 0, 0, 0, 1), (13, .iadd, 14, 0, 0, 0, 0, 0), (14, .goto 4, 17, 18, 0, 0, 0, 0)], [(17, .iconst 0, 18, 0, 0, 0, 0, 0), (18, .iastore, 19, 0, 0, 0, 0, 0), (19, .aload_n 1, 20, 1, 0, 0, 0, 0), (20, .iconst 0, 21, 0, 0, 0, 0, 0), (21, .iaload, 22, 0, 0, 0, 0, 0), (22, .ifCond .ne 15, 25, 37, 0, 0, 0, 0), (25, .aload_n 0, 26, 0, 0, 0, 0, 0), (26, .aload_n 1, 27, 1, 0, 0, 0, 0), (27, .invokevirtual 127, 30, 65, 1, 10, 971, 1), (30, .ifCond .eq 7, 33, 37, 0, 0, 0, 0)], [(33, .iconst 1, 34, 0, 0, 0, 0, 1), (34, .goto 4, 37, 38, 0, 0, 0, 0), (37, .iconst 0, 38, 0, 0, 0, 0, 0), (38, .istore_n 3, 39, 3, 0, 0, 0, 0), (39, .aload_n 1, 40, 1, 0, 0, 0, 0), (40, .bipush 7, 42, 0, 0, 0, 0, 7), (42, .iaload, 43, 0, 0, 0, 0, 0), (43, .ifCond .eq 9, 46, 52, 0, 0, 0, 0), (46, .aload_n 1, 47, 1, 0, 0, 0, 0), (47, .iconst 0, 48, 0, 0, 0, 0, 0)], [(48, .iaload, 49, 0, 0, 0, 0, 0), (49, .ifCond .eq 7, 52, 56, 0, 0, 0, 0), (52, .iconst 1, 53, 0, 0, 0, 0, 1), (53, .goto 4, 56, 57, 0, 0, 0, 0), (56, .iconst 0, 57, 0, 0, 0, 0, 0), (57, .istore 4, 59, 4, 0, 0, 0, 0), (59, .aload_n 1, 60, 1, 0, 0, 0, 0), (60, .bipush 15, 62, 0, 0, 0, 0, 15), (62, .iload 4, 64, 4, 0, 0, 0, 0)], [(64, .ifCond .eq 7, 67, 71, 0, 0, 0, 0), (67, .iconst 0, 68, 0, 0, 0, 0, 0), (68, .goto 15, 71, 83, 0, 0, 0, 0), (71, .iload_n 3, 72, 3, 0, 0, 0, 0), (72, .ifCond .eq 7, 75, 79, 0, 0, 0, 0), (75, .iconst 1, 76, 0, 0, 0, 0, 1), (76, .goto 7, 79, 83, 0, 0, 0, 0), (79, .aload_n 1, 80, 1, 0, 0, 0, 0)], [(80, .bipush 15, 82, 0, 0, 0, 0, 15), (82, .iaload, 83, 0, 0, 0, 0, 0), (83, .iastore, 84, 0, 0, 0, 0, 0), (84, .aload_n 1, 85, 1, 0, 0, 0, 0), (85, .bipush 15, 87, 0, 0, 0, 0, 15), (87, .iaload, 88, 0, 0, 0, 0, 0), (88, .iconst 1, 89, 0, 0, 0, 0, 1), (89, .if_icmp .ne 23, 92, 112, 0, 0, 0, 0), (92, .aload_n 0, 93, 0, 0, 0, 0, 0), (93, .aload_n 1, 94, 1, 0, 0, 0, 0), (94, .aload_n 1, 95, 1, 0, 0, 0, 0), (95, .bipush 7, 97, 0, 0, 0, 0, 7)], [(97, .iaload, 98, 0, 0, 0, 0, 0), (98, .ifCond .le 7, 101, 105, 0, 0, 0, 0), (101, .iconst (-1), 102, 0, 0, 0, 0, (-1)), (102, .goto 4, 105, 106, 0, 0, 0, 0), (105, .iconst 1, 106, 0, 0, 0, 0, 1), (106, .invokevirtual 141, 109, 22, 2, 10, 1001, 0), (109, .goto 75, 112, 184, 0, 0, 0, 0)], [(112, .aload_n 1, 113, 1, 0, 0, 0, 0), (113, .iconst 0, 114, 0, 0, 0, 0, 0), (114, .iaload, 115, 0, 0, 0, 0, 0), (115, .iconst 3, 116, 0, 0, 0, 0, 3), (116, .if_icmp .gt 68, 119, 184, 0, 0, 0, 0), (119, .aload_n 1, 120, 1, 0, 0, 0, 0), (120, .bipush 14, 122, 0, 0, 0, 0, 14), (122, .iaload, 123, 0, 0, 0, 0, 0), (123, .iconst 3, 124, 0, 0, 0, 0, 3), (124, .if_icmp .lt 60, 127, 184, 0, 0, 0, 0), (127, .aload_n 1, 128, 1, 0, 0, 0, 0)], [(128, .iconst 5, 129, 0, 0, 0, 0, 5), (129, .iaload, 130, 0, 0, 0, 0, 0), (130, .aload_n 1, 131, 1, 0, 0, 0, 0), (131, .bipush 6, 133, 0, 0, 0, 0, 6), (133, .iaload, 134, 0, 0, 0, 0, 0), (134, .isub, 135, 0, 0, 0, 0, 0), (135, .bipush 36, 137, 0, 0, 0, 0, 36), (137, .iadd, 138, 0, 0, 0, 0, 0), (138, .bipush 36, 140, 0, 0, 0, 0, 36), (140, .irem, 141, 0, 0, 0, 0, 0), (141, .istore 5, 143, 5, 0, 0, 0, 0), (143, .iload 5, 145, 5, 0, 0, 0, 0)], [(145, .bipush 18, 147, 0, 0, 0, 0, 18), (147, .if_icmp .gt 7, 150, 154, 0, 0, 0, 0), (150, .iconst 1, 151, 0, 0, 0, 0, 1), (151, .goto 4, 154, 155, 0, 0, 0, 0), (154, .iconst (-1), 155, 0, 0, 0, 0, (-1)), (155, .istore 6, 157, 6, 0, 0, 0, 0), (157, .aload_n 1, 158, 1, 0, 0, 0, 0), (158, .bipush 7, 160, 0, 0, 0, 0, 7)], [(160, .iaload, 161, 0, 0, 0, 0, 0), (161, .iload 6, 163, 6, 0, 0, 0, 0), (163, .iadd, 164, 0, 0, 0, 0, 0), (164, .iconst 0, 165, 0, 0, 0, 0, 0), (165, .invokestatic 119, 168, 6, 2, 0, 975, 1), (168, .aload_n 0, 169, 0, 0, 0, 0, 0), (169, .getfield 26, 172, 10, 6, 1, 809, 0), (172, .iconst 4, 173, 0, 0, 0, 0, 4), (173, .iaload, 174, 0, 0, 0, 0, 0), (174, .if_icmp .gt 10, 177, 184, 0, 0, 0, 0)], [(177, .aload_n 0, 178, 0, 0, 0, 0, 0), (178, .aload_n 1, 179, 1, 0, 0, 0, 0), (179, .iload 6, 181, 6, 0, 0, 0, 0), (181, .invokevirtual 141, 184, 22, 2, 10, 1001, 0), (184, .return_, 185, 0, 0, 0, 0, 0)]])
def hc_X10_modeOf : hC := (3, [[(0, .aload_n 1, 1, 1, 0, 0, 0, 0), (1, .iconst 0, 2, 0, 0, 0, 0, 0), (2, .iaload, 3, 0, 0, 0, 0, 0), (3, .istore_n 2, 4, 2, 0, 0, 0, 0), (4, .aload_n 1, 5, 1, 0, 0, 0, 0), (5, .iconst 1, 6, 0, 0, 0, 0, 1), (6, .iaload, 7, 0, 0, 0, 0, 0), (7, .aload_n 0, 8, 0, 0, 0, 0, 0), (8, .getfield 26, 11, 10, 6, 1, 809, 0), (11, .iconst 1, 12, 0, 0, 0, 0, 1), (12, .iaload, 13, 0, 0, 0, 0, 0), (13, .if_icmp .le 14, 16, 27, 0, 0, 0, 0)], [(16, .iload_n 2, 17, 2, 0, 0, 0, 0), (17, .iconst 1, 18, 0, 0, 0, 0, 1), (18, .iconst 4, 19, 0, 0, 0, 0, 4), (19, .invokestatic 59, 22, 10, 3, 0, 886, 1), (22, .ifCond .eq 5, 25, 27, 0, 0, 0, 0), (25, .iconst 5, 26, 0, 0, 0, 0, 5), (26, .ireturn, 27, 0, 0, 0, 0, 0), (27, .iload_n 2, 28, 2, 0, 0, 0, 0), (28, .iconst 1, 29, 0, 0, 0, 0, 1), (29, .iconst 3, 30, 0, 0, 0, 0, 3), (30, .invokestatic 59, 33, 10, 3, 0, 886, 1)], [(33, .ifCond .eq 36, 36, 69, 0, 0, 0, 0), (36, .aload_n 1, 37, 1, 0, 0, 0, 0), (37, .bipush 10, 39, 0, 0, 0, 0, 10), (39, .iaload, 40, 0, 0, 0, 0, 0), (40, .ifCond .eq 27, 43, 67, 0, 0, 0, 0), (43, .aload_n 1, 44, 1, 0, 0, 0, 0), (44, .bipush 12, 46, 0, 0, 0, 0, 12), (46, .iaload, 47, 0, 0, 0, 0, 0), (47, .iconst 2, 48, 0, 0, 0, 0, 2)], [(48, .if_icmp .ge 19, 51, 67, 0, 0, 0, 0), (51, .aload_n 1, 52, 1, 0, 0, 0, 0), (52, .bipush 13, 54, 0, 0, 0, 0, 13), (54, .iaload, 55, 0, 0, 0, 0, 0), (55, .iconst 4, 56, 0, 0, 0, 0, 4), (56, .if_icmp .ge 11, 59, 67, 0, 0, 0, 0), (59, .aload_n 0, 60, 0, 0, 0, 0, 0), (60, .aload_n 1, 61, 1, 0, 0, 0, 0), (61, .invokevirtual 127, 64, 65, 1, 10, 971, 1)], [(64, .ifCond .eq 5, 67, 69, 0, 0, 0, 0), (67, .iconst 4, 68, 0, 0, 0, 0, 4), (68, .ireturn, 69, 0, 0, 0, 0, 0), (69, .iload_n 2, 70, 2, 0, 0, 0, 0), (70, .tableswitch 194 0 4 #[34, 78, 100, 148, 174], 104, 0, 0, 0, 0, 0)], [], [(104, .aload_n 1, 105, 1, 0, 0, 0, 0), (105, .bipush 10, 107, 0, 0, 0, 0, 10), (107, .iaload, 108, 0, 0, 0, 0, 0), (108, .iconst 1, 109, 0, 0, 0, 0, 1), (109, .if_icmp .ne 37, 112, 146, 0, 0, 0, 0)], [(112, .aload_n 1, 113, 1, 0, 0, 0, 0), (113, .bipush 11, 115, 0, 0, 0, 0, 11), (115, .iaload, 116, 0, 0, 0, 0, 0), (116, .iconst 3, 117, 0, 0, 0, 0, 3), (117, .if_icmp .lt 29, 120, 146, 0, 0, 0, 0), (120, .aload_n 1, 121, 1, 0, 0, 0, 0), (121, .bipush 13, 123, 0, 0, 0, 0, 13), (123, .iaload, 124, 0, 0, 0, 0, 0), (124, .ifCond .ne 22, 127, 146, 0, 0, 0, 0), (127, .aload_n 0, 128, 0, 0, 0, 0, 0)], [(128, .aload_n 1, 129, 1, 0, 0, 0, 0), (129, .invokevirtual 127, 132, 65, 1, 10, 971, 1), (132, .ifCond .ne 14, 135, 146, 0, 0, 0, 0), (135, .aload_n 1, 136, 1, 0, 0, 0, 0), (136, .bipush 15, 138, 0, 0, 0, 0, 15), (138, .iaload, 139, 0, 0, 0, 0, 0), (139, .ifCond .ne 7, 142, 146, 0, 0, 0, 0), (142, .iconst 1, 143, 0, 0, 0, 0, 1), (143, .goto 4, 146, 147, 0, 0, 0, 0)], [(146, .iload_n 2, 147, 2, 0, 0, 0, 0), (147, .ireturn, 148, 0, 0, 0, 0, 0), (148, .iconst 5, 149, 0, 0, 0, 0, 5), (149, .aload_n 1, 150, 1, 0, 0, 0, 0), (150, .iconst 1, 151, 0, 0, 0, 0, 1), (151, .iaload, 152, 0, 0, 0, 0, 0), (152, .imul, 153, 0, 0, 0, 0, 0), (153, .iconst 2, 154, 0, 0, 0, 0, 2), (154, .aload_n 0, 155, 0, 0, 0, 0, 0), (155, .getfield 26, 158, 10, 6, 1, 809, 0), (158, .iconst 0, 159, 0, 0, 0, 0, 0), (159, .iaload, 160, 0, 0, 0, 0, 0)], [(160, .imul, 161, 0, 0, 0, 0, 0), (161, .if_icmp .lt 7, 164, 168, 0, 0, 0, 0), (164, .iconst 2, 165, 0, 0, 0, 0, 2), (165, .goto 4, 168, 169, 0, 0, 0, 0), (168, .iload_n 2, 169, 2, 0, 0, 0, 0), (169, .ireturn, 170, 0, 0, 0, 0, 0), (170, .aload_n 1, 171, 1, 0, 0, 0, 0), (171, .iconst 1, 172, 0, 0, 0, 0, 1), (172, .iaload, 173, 0, 0, 0, 0, 0), (173, .aload_n 0, 174, 0, 0, 0, 0, 0), (174, .getfield 26, 177, 10, 6, 1, 809, 0)], [(177, .iconst 0, 178, 0, 0, 0, 0, 0), (178, .iaload, 179, 0, 0, 0, 0, 0), (179, .if_icmp .lt 7, 182, 186, 0, 0, 0, 0), (182, .iconst 3, 183, 0, 0, 0, 0, 3), (183, .goto 34, 186, 217, 0, 0, 0, 0), (186, .aload_n 1, 187, 1, 0, 0, 0, 0), (187, .iconst 4, 188, 0, 0, 0, 0, 4), (188, .iaload, 189, 0, 0, 0, 0, 0), (189, .aload_n 0, 190, 0, 0, 0, 0, 0), (190, .getfield 26, 193, 10, 6, 1, 809, 0)], [(193, .iconst 2, 194, 0, 0, 0, 0, 2), (194, .iaload, 195, 0, 0, 0, 0, 0), (195, .if_icmp .ge 21, 198, 216, 0, 0, 0, 0), (198, .iconst 5, 199, 0, 0, 0, 0, 5), (199, .aload_n 1, 200, 1, 0, 0, 0, 0), (200, .iconst 1, 201, 0, 0, 0, 0, 1), (201, .iaload, 202, 0, 0, 0, 0, 0), (202, .imul, 203, 0, 0, 0, 0, 0), (203, .aload_n 0, 204, 0, 0, 0, 0, 0), (204, .getfield 26, 207, 10, 6, 1, 809, 0), (207, .iconst 0, 208, 0, 0, 0, 0, 0)], [(208, .iaload, 209, 0, 0, 0, 0, 0), (209, .if_icmp .ge 7, 212, 216, 0, 0, 0, 0), (212, .iconst 4, 213, 0, 0, 0, 0, 4), (213, .goto 4, 216, 217, 0, 0, 0, 0), (216, .iload_n 2, 217, 2, 0, 0, 0, 0), (217, .ireturn, 218, 0, 0, 0, 0, 0), (218, .aload_n 1, 219, 1, 0, 0, 0, 0), (219, .iconst 2, 220, 0, 0, 0, 0, 2), (220, .iaload, 221, 0, 0, 0, 0, 0), (221, .ifCond .ne 21, 224, 242, 0, 0, 0, 0)], [(224, .aload_n 1, 225, 1, 0, 0, 0, 0), (225, .iconst 1, 226, 0, 0, 0, 0, 1), (226, .iaload, 227, 0, 0, 0, 0, 0), (227, .aload_n 0, 228, 0, 0, 0, 0, 0), (228, .getfield 26, 231, 10, 6, 1, 809, 0), (231, .iconst 0, 232, 0, 0, 0, 0, 0), (232, .iaload, 233, 0, 0, 0, 0, 0), (233, .iconst 5, 234, 0, 0, 0, 0, 5), (234, .isub, 235, 0, 0, 0, 0, 0), (235, .if_icmp .ge 7, 238, 242, 0, 0, 0, 0), (238, .iconst 2, 239, 0, 0, 0, 0, 2), (239, .goto 4, 242, 243, 0, 0, 0, 0)], [(242, .iload_n 2, 243, 2, 0, 0, 0, 0), (243, .ireturn, 244, 0, 0, 0, 0, 0), (244, .aload_n 1, 245, 1, 0, 0, 0, 0), (245, .iconst 1, 246, 0, 0, 0, 0, 1), (246, .iaload, 247, 0, 0, 0, 0, 0), (247, .ifCond .ne 15, 250, 262, 0, 0, 0, 0), (250, .aload_n 1, 251, 1, 0, 0, 0, 0), (251, .iconst 2, 252, 0, 0, 0, 0, 2), (252, .iaload, 253, 0, 0, 0, 0, 0), (253, .bipush 90, 255, 0, 0, 0, 0, 90), (255, .if_icmp .ne 7, 258, 262, 0, 0, 0, 0)], [(258, .iconst 0, 259, 0, 0, 0, 0, 0), (259, .goto 4, 262, 263, 0, 0, 0, 0), (262, .iload_n 2, 263, 2, 0, 0, 0, 0), (263, .ireturn, 264, 0, 0, 0, 0, 0), (264, .iload_n 2, 265, 2, 0, 0, 0, 0), (265, .ireturn, 266, 0, 0, 0, 0, 0)]])
def hc_X10_next : hC := (1, [[(0, .aload_n 0, 1, 0, 0, 0, 0, 0), (1, .getfield 67, 4, 10, 9, 0, 812, 0), (4, .aload_n 0, 5, 0, 0, 0, 0, 0), (5, .getfield 63, 8, 10, 8, 0, 811, 0), (8, .if_icmp .ge 30, 11, 38, 0, 0, 0, 0), (11, .aload_n 0, 12, 0, 0, 0, 0, 0), (12, .getfield 29, 15, 10, 7, 1, 810, 0), (15, .aload_n 0, 16, 0, 0, 0, 0, 0)], [(16, .getfield 67, 19, 10, 9, 0, 812, 0), (19, .iaload, 20, 0, 0, 0, 0, 0), (20, .bipush 32, 22, 0, 0, 0, 0, 32), (22, .if_icmp .ne 16, 25, 38, 0, 0, 0, 0), (25, .aload_n 0, 26, 0, 0, 0, 0, 0), (26, .dup, 27, 0, 0, 0, 0, 0), (27, .getfield 67, 30, 10, 9, 0, 812, 0), (30, .iconst 1, 31, 0, 0, 0, 0, 1), (31, .iadd, 32, 0, 0, 0, 0, 0)], [(32, .putfield 67, 35, 10, 9, 0, 812, 0), (35, .goto (-35), 38, 0, 0, 0, 0, 0), (38, .aload_n 0, 39, 0, 0, 0, 0, 0), (39, .aload_n 0, 40, 0, 0, 0, 0, 0), (40, .getfield 67, 43, 10, 9, 0, 812, 0), (43, .putfield 70, 46, 10, 10, 0, 813, 0), (46, .aload_n 0, 47, 0, 0, 0, 0, 0), (47, .getfield 67, 50, 10, 9, 0, 812, 0)], [(50, .aload_n 0, 51, 0, 0, 0, 0, 0), (51, .getfield 63, 54, 10, 8, 0, 811, 0), (54, .if_icmp .ne 11, 57, 65, 0, 0, 0, 0), (57, .aload_n 0, 58, 0, 0, 0, 0, 0), (58, .iconst 2, 59, 0, 0, 0, 0, 2), (59, .putfield 73, 62, 10, 11, 0, 814, 0), (62, .goto 182, 65, 244, 0, 0, 0, 0)], [(65, .aload_n 0, 66, 0, 0, 0, 0, 0), (66, .invokevirtual 76, 69, 64, 0, 10, 901, 1), (69, .ifCond .eq 117, 72, 186, 0, 0, 0, 0), (72, .aload_n 0, 73, 0, 0, 0, 0, 0), (73, .iconst 0, 74, 0, 0, 0, 0, 0), (74, .putfield 80, 77, 10, 12, 0, 815, 0), (77, .aload_n 0, 78, 0, 0, 0, 0, 0), (78, .invokevirtual 76, 81, 64, 0, 10, 901, 1)], [(81, .ifCond .eq 56, 84, 137, 0, 0, 0, 0), (84, .aload_n 0, 85, 0, 0, 0, 0, 0), (85, .aload_n 0, 86, 0, 0, 0, 0, 0), (86, .getfield 80, 89, 10, 12, 0, 815, 0), (89, .sipush 255, 92, 0, 0, 0, 0, 255), (92, .if_icmp .le 9, 95, 101, 0, 0, 0, 0), (95, .sipush 256, 98, 0, 0, 0, 0, 256)], [(98, .goto 23, 101, 121, 0, 0, 0, 0), (101, .bipush 10, 103, 0, 0, 0, 0, 10), (103, .aload_n 0, 104, 0, 0, 0, 0, 0), (104, .getfield 80, 107, 10, 12, 0, 815, 0), (107, .imul, 108, 0, 0, 0, 0, 0), (108, .aload_n 0, 109, 0, 0, 0, 0, 0), (109, .getfield 29, 112, 10, 7, 1, 810, 0)], [(112, .aload_n 0, 113, 0, 0, 0, 0, 0), (113, .getfield 67, 116, 10, 9, 0, 812, 0), (116, .iaload, 117, 0, 0, 0, 0, 0), (117, .iadd, 118, 0, 0, 0, 0, 0), (118, .bipush 48, 120, 0, 0, 0, 0, 48), (120, .isub, 121, 0, 0, 0, 0, 0), (121, .putfield 80, 124, 10, 12, 0, 815, 0), (124, .aload_n 0, 125, 0, 0, 0, 0, 0), (125, .dup, 126, 0, 0, 0, 0, 0), (126, .getfield 67, 129, 10, 9, 0, 812, 0)], [(129, .iconst 1, 130, 0, 0, 0, 0, 1), (130, .iadd, 131, 0, 0, 0, 0, 0), (131, .putfield 67, 134, 10, 9, 0, 812, 0), (134, .goto (-57), 137, 77, 0, 0, 0, 0), (137, .aload_n 0, 138, 0, 0, 0, 0, 0), (138, .aload_n 0, 139, 0, 0, 0, 0, 0), (139, .getfield 80, 142, 10, 12, 0, 815, 0), (142, .sipush 255, 145, 0, 0, 0, 0, 255)], [(145, .if_icmp .gt 30, 148, 175, 0, 0, 0, 0), (148, .aload_n 0, 149, 0, 0, 0, 0, 0), (149, .getfield 29, 152, 10, 7, 1, 810, 0), (152, .aload_n 0, 153, 0, 0, 0, 0, 0), (153, .getfield 70, 156, 10, 10, 0, 813, 0), (156, .iaload, 157, 0, 0, 0, 0, 0), (157, .bipush 48, 159, 0, 0, 0, 0, 48), (159, .if_icmp .ne 20, 162, 179, 0, 0, 0, 0)], [(162, .aload_n 0, 163, 0, 0, 0, 0, 0), (163, .getfield 67, 166, 10, 9, 0, 812, 0), (166, .aload_n 0, 167, 0, 0, 0, 0, 0), (167, .getfield 70, 170, 10, 10, 0, 813, 0), (170, .iconst 1, 171, 0, 0, 0, 0, 1), (171, .iadd, 172, 0, 0, 0, 0, 0), (172, .if_icmp .le 7, 175, 179, 0, 0, 0, 0), (175, .iconst 3, 176, 0, 0, 0, 0, 3)], [(176, .goto 4, 179, 180, 0, 0, 0, 0), (179, .iconst 1, 180, 0, 0, 0, 0, 1), (180, .putfield 73, 183, 10, 11, 0, 814, 0), (183, .goto 61, 186, 244, 0, 0, 0, 0), (186, .aload_n 0, 187, 0, 0, 0, 0, 0), (187, .aload_n 0, 188, 0, 0, 0, 0, 0), (188, .getfield 29, 191, 10, 7, 1, 810, 0), (191, .aload_n 0, 192, 0, 0, 0, 0, 0)], [(192, .getfield 67, 195, 10, 9, 0, 812, 0), (195, .iaload, 196, 0, 0, 0, 0, 0), (196, .bipush 59, 198, 0, 0, 0, 0, 59), (198, .if_icmp .eq 20, 201, 218, 0, 0, 0, 0), (201, .aload_n 0, 202, 0, 0, 0, 0, 0), (202, .getfield 29, 205, 10, 7, 1, 810, 0), (205, .aload_n 0, 206, 0, 0, 0, 0, 0), (206, .getfield 67, 209, 10, 9, 0, 812, 0)], [(209, .iaload, 210, 0, 0, 0, 0, 0), (210, .invokestatic 83, 213, 25, 1, 0, 905, 1), (213, .bipush (-9), 215, 0, 0, 0, 0, (-9)), (215, .if_icmp .eq 15, 218, 230, 0, 0, 0, 0), (218, .aload_n 0, 219, 0, 0, 0, 0, 0), (219, .getfield 29, 222, 10, 7, 1, 810, 0), (222, .aload_n 0, 223, 0, 0, 0, 0, 0), (223, .getfield 67, 226, 10, 9, 0, 812, 0)], [(226, .iaload, 227, 0, 0, 0, 0, 0), (227, .goto 4, 230, 231, 0, 0, 0, 0), (230, .iconst 3, 231, 0, 0, 0, 0, 3), (231, .putfield 73, 234, 10, 11, 0, 814, 0), (234, .aload_n 0, 235, 0, 0, 0, 0, 0), (235, .dup, 236, 0, 0, 0, 0, 0), (236, .getfield 67, 239, 10, 9, 0, 812, 0), (239, .iconst 1, 240, 0, 0, 0, 0, 1)], [(240, .iadd, 241, 0, 0, 0, 0, 0), (241, .putfield 67, 244, 10, 9, 0, 812, 0), (244, .return_, 245, 0, 0, 0, 0, 0)]])
def hc_X10_rains : hC := (2, [[(0, .aload_n 0, 1, 0, 0, 0, 0, 0), (1, .invokevirtual 191, 4, 61, 0, 10, 1058, 0), (4, .aload_n 0, 5, 0, 0, 0, 0, 0), (5, .iconst 0, 6, 0, 0, 0, 0, 0), (6, .putfield 188, 9, 10, 20, 0, 823, 0), (9, .aload_n 0, 10, 0, 0, 0, 0, 0), (10, .iconst 0, 11, 0, 0, 0, 0, 0), (11, .putfield 194, 14, 10, 22, 0, 825, 0), (14, .iconst 0, 15, 0, 0, 0, 0, 0), (15, .istore_n 1, 16, 1, 0, 0, 0, 0)], [(16, .iload_n 1, 17, 1, 0, 0, 0, 0), (17, .sipush 1000, 20, 0, 0, 0, 0, 1000), (20, .if_icmp .ge 16, 23, 36, 0, 0, 0, 0), (23, .aload_n 0, 24, 0, 0, 0, 0, 0), (24, .getfield 44, 27, 10, 21, 1, 824, 0), (27, .iload_n 1, 28, 1, 0, 0, 0, 0), (28, .iconst 0, 29, 0, 0, 0, 0, 0), (29, .iastore, 30, 0, 0, 0, 0, 0), (30, .iinc 1 1, 33, 1, 0, 0, 0, 1)], [(33, .goto (-17), 36, 16, 0, 0, 0, 0), (36, .iconst 0, 37, 0, 0, 0, 0, 0), (37, .istore_n 1, 38, 1, 0, 0, 0, 0), (38, .iload_n 1, 39, 1, 0, 0, 0, 0), (39, .aload_n 0, 40, 0, 0, 0, 0, 0), (40, .getfield 185, 43, 10, 18, 0, 821, 0), (43, .if_icmp .ge 120, 46, 163, 0, 0, 0, 0), (46, .aload_n 0, 47, 0, 0, 0, 0, 0), (47, .getfield 41, 50, 10, 19, 1, 822, 0)], [(50, .aload_n 0, 51, 0, 0, 0, 0, 0), (51, .getfield 188, 54, 10, 20, 0, 823, 0), (54, .aload_n 0, 55, 0, 0, 0, 0, 0), (55, .getfield 38, 58, 10, 17, 1, 820, 0), (58, .iload_n 1, 59, 1, 0, 0, 0, 0), (59, .iaload, 60, 0, 0, 0, 0, 0), (60, .iastore, 61, 0, 0, 0, 0, 0), (61, .aload_n 0, 62, 0, 0, 0, 0, 0), (62, .dup, 63, 0, 0, 0, 0, 0), (63, .getfield 188, 66, 10, 20, 0, 823, 0)], [(66, .iconst 1, 67, 0, 0, 0, 0, 1), (67, .iadd, 68, 0, 0, 0, 0, 0), (68, .putfield 188, 71, 10, 20, 0, 823, 0), (71, .aload_n 0, 72, 0, 0, 0, 0, 0), (72, .invokevirtual 197, 75, 58, 0, 10, 1066, 1), (75, .ifCond .eq 82, 78, 157, 0, 0, 0, 0), (78, .aload_n 0, 79, 0, 0, 0, 0, 0), (79, .getfield 44, 82, 10, 21, 1, 824, 0)], [(82, .aload_n 0, 83, 0, 0, 0, 0, 0), (83, .getfield 41, 86, 10, 19, 1, 822, 0), (86, .aload_n 0, 87, 0, 0, 0, 0, 0), (87, .getfield 188, 90, 10, 20, 0, 823, 0), (90, .iconst 3, 91, 0, 0, 0, 0, 3), (91, .isub, 92, 0, 0, 0, 0, 0), (92, .iaload, 93, 0, 0, 0, 0, 0), (93, .aload_n 0, 94, 0, 0, 0, 0, 0), (94, .getfield 41, 97, 10, 19, 1, 822, 0)], [(97, .aload_n 0, 98, 0, 0, 0, 0, 0), (98, .getfield 188, 101, 10, 20, 0, 823, 0), (101, .iconst 2, 102, 0, 0, 0, 0, 2), (102, .isub, 103, 0, 0, 0, 0, 0), (103, .iaload, 104, 0, 0, 0, 0, 0), (104, .invokestatic 119, 107, 6, 2, 0, 975, 1), (107, .dup2, 108, 0, 0, 0, 0, 0), (108, .iaload, 109, 0, 0, 0, 0, 0), (109, .iconst 2, 110, 0, 0, 0, 0, 2), (110, .iadd, 111, 0, 0, 0, 0, 0), (111, .iastore, 112, 0, 0, 0, 0, 0)], [(112, .aload_n 0, 113, 0, 0, 0, 0, 0), (113, .dup, 114, 0, 0, 0, 0, 0), (114, .getfield 194, 117, 10, 22, 0, 825, 0), (117, .iconst 1, 118, 0, 0, 0, 0, 1), (118, .iadd, 119, 0, 0, 0, 0, 0), (119, .putfield 194, 122, 10, 22, 0, 825, 0), (122, .aload_n 0, 123, 0, 0, 0, 0, 0), (123, .getfield 41, 126, 10, 19, 1, 822, 0), (126, .aload_n 0, 127, 0, 0, 0, 0, 0), (127, .getfield 188, 130, 10, 20, 0, 823, 0)], [(130, .iconst 3, 131, 0, 0, 0, 0, 3), (131, .isub, 132, 0, 0, 0, 0, 0), (132, .aload_n 0, 133, 0, 0, 0, 0, 0), (133, .getfield 41, 136, 10, 19, 1, 822, 0), (136, .aload_n 0, 137, 0, 0, 0, 0, 0), (137, .getfield 188, 140, 10, 20, 0, 823, 0), (140, .iconst 1, 141, 0, 0, 0, 0, 1), (141, .isub, 142, 0, 0, 0, 0, 0), (142, .iaload, 143, 0, 0, 0, 0, 0), (143, .iastore, 144, 0, 0, 0, 0, 0)], [(144, .aload_n 0, 145, 0, 0, 0, 0, 0), (145, .dup, 146, 0, 0, 0, 0, 0), (146, .getfield 188, 149, 10, 20, 0, 823, 0), (149, .iconst 2, 150, 0, 0, 0, 0, 2), (150, .isub, 151, 0, 0, 0, 0, 0), (151, .putfield 188, 154, 10, 20, 0, 823, 0), (154, .goto (-83), 157, 71, 0, 0, 0, 0), (157, .iinc 1 1, 160, 1, 0, 0, 0, 1)], [(160, .goto (-122), 163, 38, 0, 0, 0, 0), (163, .iconst 1, 164, 0, 0, 0, 0, 1), (164, .istore_n 1, 165, 1, 0, 0, 0, 0), (165, .iload_n 1, 166, 1, 0, 0, 0, 0), (166, .aload_n 0, 167, 0, 0, 0, 0, 0), (167, .getfield 188, 170, 10, 20, 0, 823, 0), (170, .if_icmp .ge 35, 173, 205, 0, 0, 0, 0), (173, .aload_n 0, 174, 0, 0, 0, 0, 0), (174, .getfield 44, 177, 10, 21, 1, 824, 0)], [(177, .aload_n 0, 178, 0, 0, 0, 0, 0), (178, .getfield 41, 181, 10, 19, 1, 822, 0), (181, .iload_n 1, 182, 1, 0, 0, 0, 0), (182, .iaload, 183, 0, 0, 0, 0, 0), (183, .aload_n 0, 184, 0, 0, 0, 0, 0), (184, .getfield 41, 187, 10, 19, 1, 822, 0), (187, .iload_n 1, 188, 1, 0, 0, 0, 0), (188, .iconst 1, 189, 0, 0, 0, 0, 1), (189, .isub, 190, 0, 0, 0, 0, 0), (190, .iaload, 191, 0, 0, 0, 0, 0), (191, .invokestatic 119, 194, 6, 2, 0, 975, 1)], [(194, .dup2, 195, 0, 0, 0, 0, 0), (195, .iaload, 196, 0, 0, 0, 0, 0), (196, .iconst 1, 197, 0, 0, 0, 0, 1), (197, .iadd, 198, 0, 0, 0, 0, 0), (198, .iastore, 199, 0, 0, 0, 0, 0), (199, .iinc 1 1, 202, 1, 0, 0, 0, 1), (202, .goto (-37), 205, 165, 0, 0, 0, 0), (205, .return_, 206, 0, 0, 0, 0, 0)]])
def hc_X10_wants : hC := (2, [[(0, .aload_n 0, 1, 0, 0, 0, 0, 0), (1, .bipush 10, 3, 0, 0, 0, 0, 10), (3, .iload_n 1, 4, 1, 0, 0, 0, 0), (4, .invokevirtual 161, 7, 56, 2, 10, 943, 1), (7, .ireturn, 8, 0, 0, 0, 0, 0)]])
def hc_X2_addToRow : hC := (2, [[(0, .aload_n 0, 1, 0, 0, 0, 0, 0), (1, .getfield 28, 4, 2, 3, 0, 360, 0), (4, .bipush 40, 6, 0, 0, 0, 0, 40), (6, .if_icmp .lt 4, 9, 10, 0, 0, 0, 0), (9, .return_, 10, 0, 0, 0, 0, 0), (10, .aload_n 0, 11, 0, 0, 0, 0, 0), (11, .getfield 15, 14, 2, 2, 1, 359, 0), (14, .aload_n 0, 15, 0, 0, 0, 0, 0), (15, .getfield 28, 18, 2, 3, 0, 360, 0)], [(18, .iload_n 1, 19, 1, 0, 0, 0, 0), (19, .iastore, 20, 0, 0, 0, 0, 0), (20, .aload_n 0, 21, 0, 0, 0, 0, 0), (21, .dup, 22, 0, 0, 0, 0, 0), (22, .getfield 28, 25, 2, 3, 0, 360, 0), (25, .iconst 1, 26, 0, 0, 0, 0, 1), (26, .iadd, 27, 0, 0, 0, 0, 0), (27, .putfield 28, 30, 2, 3, 0, 360, 0), (30, .aload_n 0, 31, 0, 0, 0, 0, 0), (31, .getfield 28, 34, 2, 3, 0, 360, 0)], [(34, .iconst 4, 35, 0, 0, 0, 0, 4), (35, .if_icmp .lt 86, 38, 121, 0, 0, 0, 0), (38, .aload_n 0, 39, 0, 0, 0, 0, 0), (39, .invokevirtual 62, 42, 75, 0, 2, 697, 1), (42, .ifCond .eq 79, 45, 121, 0, 0, 0, 0), (45, .aload_n 0, 46, 0, 0, 0, 0, 0), (46, .dup, 47, 0, 0, 0, 0, 0), (47, .getfield 34, 50, 2, 7, 0, 365, 0)], [(50, .iconst 1, 51, 0, 0, 0, 0, 1), (51, .iadd, 52, 0, 0, 0, 0, 0), (52, .putfield 34, 55, 2, 7, 0, 365, 0), (55, .aload_n 0, 56, 0, 0, 0, 0, 0), (56, .aload_n 0, 57, 0, 0, 0, 0, 0), (57, .getfield 15, 60, 2, 2, 1, 359, 0), (60, .aload_n 0, 61, 0, 0, 0, 0, 0), (61, .getfield 28, 64, 2, 3, 0, 360, 0)], [(64, .iconst 2, 65, 0, 0, 0, 0, 2), (65, .isub, 66, 0, 0, 0, 0, 0), (66, .iaload, 67, 0, 0, 0, 0, 0), (67, .aload_n 0, 68, 0, 0, 0, 0, 0), (68, .getfield 15, 71, 2, 2, 1, 359, 0), (71, .aload_n 0, 72, 0, 0, 0, 0, 0), (72, .getfield 28, 75, 2, 3, 0, 360, 0), (75, .iconst 3, 76, 0, 0, 0, 0, 3), (76, .isub, 77, 0, 0, 0, 0, 0), (77, .iaload, 78, 0, 0, 0, 0, 0), (78, .isub, 79, 0, 0, 0, 0, 0), (79, .invokestatic 53, 82, 1, 1, 0, 701, 1)], [(82, .iconst 2, 83, 0, 0, 0, 0, 2), (83, .invokevirtual 58, 86, 71, 2, 2, 704, 0), (86, .aload_n 0, 87, 0, 0, 0, 0, 0), (87, .getfield 15, 90, 2, 2, 1, 359, 0), (90, .aload_n 0, 91, 0, 0, 0, 0, 0), (91, .getfield 28, 94, 2, 3, 0, 360, 0), (94, .iconst 3, 95, 0, 0, 0, 0, 3), (95, .isub, 96, 0, 0, 0, 0, 0)], [(96, .aload_n 0, 97, 0, 0, 0, 0, 0), (97, .getfield 15, 100, 2, 2, 1, 359, 0), (100, .aload_n 0, 101, 0, 0, 0, 0, 0), (101, .getfield 28, 104, 2, 3, 0, 360, 0), (104, .iconst 1, 105, 0, 0, 0, 0, 1), (105, .isub, 106, 0, 0, 0, 0, 0), (106, .iaload, 107, 0, 0, 0, 0, 0), (107, .iastore, 108, 0, 0, 0, 0, 0), (108, .aload_n 0, 109, 0, 0, 0, 0, 0), (109, .dup, 110, 0, 0, 0, 0, 0), (110, .getfield 28, 113, 2, 3, 0, 360, 0)], [(113, .iconst 2, 114, 0, 0, 0, 0, 2), (114, .isub, 115, 0, 0, 0, 0, 0), (115, .putfield 28, 118, 2, 3, 0, 360, 0), (118, .goto (-88), 121, 30, 0, 0, 0, 0), (121, .return_, 122, 0, 0, 0, 0, 0)]])
def hc_X3_init : hC := (1, [[(0, .aload_n 0, 1, 0, 0, 0, 0, 0), (1, .invokespecial 3, 4, 9998, 0, 0, 172, 0), (4, .aload_n 0, 5, 0, 0, 0, 0, 0), (5, .new 9, 8, 5, 0, 0, 173, 0), (8, .dup, 9, 0, 0, 0, 0, 0), (9, .invokespecial 11, 12, 78, 0, 5, 174, 0), (12, .putfield 12, 15, 3, 0, 1, 175, 0), (15, .return_, 16, 0, 0, 0, 0, 0)]])
def hc_X3_takesNumber : hC := (2, [[(0, .iload_n 1, 1, 1, 0, 0, 0, 0), (1, .ifCond .lt 18, 4, 19, 0, 0, 0, 0), (4, .aload_n 0, 5, 0, 0, 0, 0, 0), (5, .getfield 12, 8, 3, 0, 1, 175, 0), (8, .aload_n 0, 9, 0, 0, 0, 0, 0), (9, .getfield 76, 12, 3, 2, 0, 178, 0), (12, .iload_n 1, 13, 1, 0, 0, 0, 0), (13, .invokevirtual 79, 16, 79, 2, 5, 482, 1)], [(16, .ifCond .ne 5, 19, 21, 0, 0, 0, 0), (19, .iconst 0, 20, 0, 0, 0, 0, 0), (20, .ireturn, 21, 0, 0, 2, 0, 0), (21, .aload_n 0, 22, 0, 0, 0, 0, 0), (22, .getfield 12, 25, 3, 0, 1, 175, 0), (25, .aload_n 0, 26, 0, 0, 0, 0, 0), (26, .getfield 76, 29, 3, 2, 0, 178, 0), (29, .iload_n 1, 30, 1, 0, 0, 0, 0), (30, .invokevirtual 83, 33, 35, 2, 5, 487, 0)], [(33, .aload_n 0, 34, 0, 0, 0, 0, 0), (34, .iconst 2, 35, 0, 0, 0, 0, 2), (35, .putfield 21, 38, 3, 1, 0, 177, 0), (38, .iconst 1, 39, 0, 0, 0, 0, 1), (39, .ireturn, 40, 0, 0, 2, 0, 0)]])
def hc_X6_behindToken : hC := (3, [[(0, .aload_n 0, 1, 0, 0, 0, 0, 0), (1, .iload_n 1, 2, 1, 0, 0, 0, 0), (2, .invokevirtual 27, 5, 82, 1, 6, 453, 1), (5, .ifCond .ne 7, 8, 12, 0, 0, 0, 0), (8, .iload_n 1, 9, 1, 0, 0, 0, 0), (9, .iconst 1, 10, 0, 0, 0, 0, 1), (10, .iadd, 11, 0, 0, 0, 0, 0), (11, .ireturn, 12, 0, 0, 0, 0, 0), (12, .iload_n 1, 13, 1, 0, 0, 0, 0), (13, .istore_n 2, 14, 2, 0, 0, 0, 0), (14, .iload_n 2, 15, 2, 0, 0, 0, 0), (15, .aload_n 0, 16, 0, 0, 0, 0, 0)], [(16, .getfield 15, 19, 6, 1, 0, 158, 0), (19, .if_icmp .ge 17, 22, 36, 0, 0, 0, 0), (22, .aload_n 0, 23, 0, 0, 0, 0, 0), (23, .iload_n 2, 24, 2, 0, 0, 0, 0), (24, .invokevirtual 27, 27, 82, 1, 6, 453, 1), (27, .ifCond .eq 9, 30, 36, 0, 0, 0, 0), (30, .iinc 2 1, 33, 2, 0, 0, 0, 1)], [(33, .goto (-19), 36, 14, 0, 0, 0, 0), (36, .iload_n 2, 37, 2, 0, 0, 0, 0), (37, .ireturn, 38, 0, 0, 0, 0, 0)]])
def hc_X6_numberAt : hC := (6, [[(0, .iload_n 2, 1, 2, 0, 0, 0, 0), (1, .iload_n 1, 2, 1, 0, 0, 0, 0), (2, .isub, 3, 0, 0, 0, 0, 0), (3, .istore_n 3, 4, 3, 0, 0, 0, 0), (4, .aload_n 0, 5, 0, 0, 0, 0, 0), (5, .iload_n 1, 6, 1, 0, 0, 0, 0), (6, .invokevirtual 27, 9, 82, 1, 6, 453, 1), (9, .ifCond .eq 23, 12, 32, 0, 0, 0, 0), (12, .iload_n 3, 13, 3, 0, 0, 0, 0), (13, .iconst 3, 14, 0, 0, 0, 0, 3), (14, .if_icmp .gt 18, 17, 32, 0, 0, 0, 0)], [(17, .iload_n 3, 18, 3, 0, 0, 0, 0), (18, .iconst 1, 19, 0, 0, 0, 0, 1), (19, .if_icmp .le 15, 22, 34, 0, 0, 0, 0), (22, .aload_n 0, 23, 0, 0, 0, 0, 0), (23, .iload_n 1, 24, 1, 0, 0, 0, 0), (24, .invokevirtual 19, 27, 39, 1, 6, 445, 1), (27, .bipush 48, 29, 0, 0, 0, 0, 48), (29, .if_icmp .ne 5, 32, 34, 0, 0, 0, 0)], [(32, .iconst (-1), 33, 0, 0, 0, 0, (-1)), (33, .ireturn, 34, 0, 0, 0, 0, 0), (34, .iconst 0, 35, 0, 0, 0, 0, 0), (35, .istore 4, 37, 4, 0, 0, 0, 0), (37, .iload_n 1, 38, 1, 0, 0, 0, 0), (38, .istore 5, 40, 5, 0, 0, 0, 0), (40, .iload 5, 42, 5, 0, 0, 0, 0), (42, .iload_n 2, 43, 2, 0, 0, 0, 0), (43, .if_icmp .ge 26, 46, 69, 0, 0, 0, 0), (46, .bipush 10, 48, 0, 0, 0, 0, 10)], [(48, .iload 4, 50, 4, 0, 0, 0, 0), (50, .imul, 51, 0, 0, 0, 0, 0), (51, .aload_n 0, 52, 0, 0, 0, 0, 0), (52, .iload 5, 54, 5, 0, 0, 0, 0), (54, .invokevirtual 19, 57, 39, 1, 6, 445, 1), (57, .iadd, 58, 0, 0, 0, 0, 0), (58, .bipush 48, 60, 0, 0, 0, 0, 48), (60, .isub, 61, 0, 0, 0, 0, 0), (61, .istore 4, 63, 4, 0, 0, 0, 0), (63, .iinc 5 1, 66, 5, 0, 0, 0, 1)], [(66, .goto (-26), 69, 40, 0, 0, 0, 0), (69, .iload 4, 71, 4, 0, 0, 0, 0), (71, .sipush 255, 74, 0, 0, 0, 0, 255), (74, .if_icmp .le 7, 77, 81, 0, 0, 0, 0), (77, .iconst (-1), 78, 0, 0, 0, 0, (-1)), (78, .goto 5, 81, 83, 0, 0, 0, 0)], [(81, .iload 4, 83, 4, 0, 0, 0, 0), (83, .ireturn, 84, 0, 0, 0, 0, 0)]])
def hc_X8_step : hC := (3, [[(0, .aload_n 0, 1, 0, 0, 0, 0, 0), (1, .aload_n 0, 2, 0, 0, 0, 0, 0), (2, .getfield 27, 5, 8, 4, 0, 216, 0), (5, .aload_n 1, 6, 1, 0, 0, 0, 0), (6, .getfield 64, 9, 5, 2, 0, 131, 0), (9, .if_icmp .lt 23, 12, 32, 0, 0, 0, 0), (12, .aload_n 0, 13, 0, 0, 0, 0, 0), (13, .getfield 27, 16, 8, 4, 0, 216, 0)], [(16, .aload_n 1, 17, 1, 0, 0, 0, 0), (17, .getfield 69, 20, 5, 3, 0, 133, 0), (20, .if_icmp .ge 12, 23, 32, 0, 0, 0, 0), (23, .aload_n 0, 24, 0, 0, 0, 0, 0), (24, .getfield 49, 27, 8, 11, 0, 229, 0), (27, .iconst 1, 28, 0, 0, 0, 0, 1), (28, .iadd, 29, 0, 0, 0, 0, 0), (29, .goto 4, 32, 33, 0, 0, 0, 0)], [(32, .iconst 0, 33, 0, 0, 0, 0, 0), (33, .putfield 49, 36, 8, 11, 0, 229, 0), (36, .aload_n 0, 37, 0, 0, 0, 0, 0), (37, .aload_n 0, 38, 0, 0, 0, 0, 0), (38, .getfield 27, 41, 8, 4, 0, 216, 0), (41, .aload_n 1, 42, 1, 0, 0, 0, 0), (42, .getfield 69, 45, 5, 3, 0, 133, 0), (45, .if_icmp .lt 12, 48, 57, 0, 0, 0, 0)], [(48, .aload_n 0, 49, 0, 0, 0, 0, 0), (49, .getfield 52, 52, 8, 12, 0, 230, 0), (52, .iconst 1, 53, 0, 0, 0, 0, 1), (53, .iadd, 54, 0, 0, 0, 0, 0), (54, .goto 4, 57, 58, 0, 0, 0, 0), (57, .iconst 0, 58, 0, 0, 0, 0, 0), (58, .putfield 52, 61, 8, 12, 0, 230, 0), (61, .aload_n 0, 62, 0, 0, 0, 0, 0), (62, .aload_n 0, 63, 0, 0, 0, 0, 0), (63, .getfield 42, 66, 8, 9, 0, 225, 0)], [(66, .ifCond .eq 7, 69, 73, 0, 0, 0, 0), (69, .iconst 0, 70, 0, 0, 0, 0, 0), (70, .goto 9, 73, 79, 0, 0, 0, 0), (73, .aload_n 0, 74, 0, 0, 0, 0, 0), (74, .getfield 55, 77, 8, 13, 0, 231, 0), (77, .iconst 1, 78, 0, 0, 0, 0, 1), (78, .iadd, 79, 0, 0, 0, 0, 0), (79, .putfield 55, 82, 8, 13, 0, 231, 0)], [(82, .aload_n 0, 83, 0, 0, 0, 0, 0), (83, .aload_n 0, 84, 0, 0, 0, 0, 0), (84, .aload_n 1, 85, 1, 0, 0, 0, 0), (85, .invokevirtual 72, 88, 91, 1, 8, 573, 1), (88, .putfield 14, 91, 8, 0, 0, 208, 0), (91, .aload_n 0, 92, 0, 0, 0, 0, 0), (92, .aload_n 0, 93, 0, 0, 0, 0, 0), (93, .getfield 21, 96, 8, 2, 0, 214, 0)], [(96, .aload_n 0, 97, 0, 0, 0, 0, 0), (97, .aload_n 1, 98, 1, 0, 0, 0, 0), (98, .invokevirtual 76, 101, 92, 1, 8, 581, 1), (101, .aload_n 0, 102, 0, 0, 0, 0, 0), (102, .getfield 14, 105, 8, 0, 0, 208, 0), (105, .iconst 5, 106, 0, 0, 0, 0, 5), (106, .if_icmp .ne 12, 109, 118, 0, 0, 0, 0), (109, .iconst 2, 110, 0, 0, 0, 0, 2), (110, .aload_n 1, 111, 1, 0, 0, 0, 0), (111, .getfield 79, 114, 5, 5, 0, 137, 0)], [(114, .imul, 115, 0, 0, 0, 0, 0), (115, .goto 7, 118, 122, 0, 0, 0, 0), (118, .aload_n 1, 119, 1, 0, 0, 0, 0), (119, .getfield 79, 122, 5, 5, 0, 137, 0), (122, .invokestatic 82, 125, 90, 3, 0, 589, 1), (125, .putfield 21, 128, 8, 2, 0, 214, 0)], [(128, .aload_n 0, 129, 0, 0, 0, 0, 0), (129, .aload_n 0, 130, 0, 0, 0, 0, 0), (130, .getfield 42, 133, 8, 9, 0, 225, 0), (133, .ifCond .eq 20, 136, 153, 0, 0, 0, 0), (136, .aload_n 0, 137, 0, 0, 0, 0, 0), (137, .getfield 24, 140, 8, 3, 0, 215, 0), (140, .aload_n 0, 141, 0, 0, 0, 0, 0), (141, .aload_n 1, 142, 1, 0, 0, 0, 0), (142, .invokevirtual 86, 145, 46, 1, 8, 592, 1)], [(145, .bipush 10, 147, 0, 0, 0, 0, 10), (147, .invokestatic 82, 150, 90, 3, 0, 589, 1), (150, .goto 4, 153, 154, 0, 0, 0, 0), (153, .iconst 0, 154, 0, 0, 0, 0, 0), (154, .putfield 24, 157, 8, 3, 0, 215, 0), (157, .aload_n 0, 158, 0, 0, 0, 0, 0), (158, .invokevirtual 89, 161, 88, 0, 8, 596, 1)], [(161, .istore_n 2, 162, 2, 0, 0, 0, 0), (162, .aload_n 0, 163, 0, 0, 0, 0, 0), (163, .iconst 0, 164, 0, 0, 0, 0, 0), (164, .aload_n 0, 165, 0, 0, 0, 0, 0), (165, .getfield 18, 168, 8, 1, 0, 211, 0), (168, .aload_n 0, 169, 0, 0, 0, 0, 0), (169, .iload_n 2, 170, 2, 0, 0, 0, 0), (170, .invokevirtual 93, 173, 87, 1, 8, 604, 1), (173, .aload_n 0, 174, 0, 0, 0, 0, 0), (174, .getfield 24, 177, 8, 3, 0, 215, 0)], [(177, .isub, 178, 0, 0, 0, 0, 0), (178, .aload_n 0, 179, 0, 0, 0, 0, 0), (179, .invokevirtual 97, 182, 43, 0, 8, 608, 1), (182, .isub, 183, 0, 0, 0, 0, 0), (183, .bipush 8, 185, 0, 0, 0, 0, 8), (185, .invokestatic 100, 188, 2, 2, 0, 612, 1), (188, .iadd, 189, 0, 0, 0, 0, 0), (189, .invokestatic 106, 192, 4, 2, 0, 586, 1)], [(192, .putfield 18, 195, 8, 1, 0, 211, 0), (195, .aload_n 0, 196, 0, 0, 0, 0, 0), (196, .iload_n 2, 197, 2, 0, 0, 0, 0), (197, .iconst 2, 198, 0, 0, 0, 0, 2), (198, .if_icmp .le 12, 201, 210, 0, 0, 0, 0), (201, .aload_n 0, 202, 0, 0, 0, 0, 0), (202, .getfield 58, 205, 8, 14, 0, 232, 0), (205, .iconst 1, 206, 0, 0, 0, 0, 1), (206, .iadd, 207, 0, 0, 0, 0, 0), (207, .goto 4, 210, 211, 0, 0, 0, 0)], [(210, .iconst 0, 211, 0, 0, 0, 0, 0), (211, .putfield 58, 214, 8, 14, 0, 232, 0), (214, .aload_n 0, 215, 0, 0, 0, 0, 0), (215, .aload_n 1, 216, 1, 0, 0, 0, 0), (216, .getfield 109, 219, 5, 4, 0, 135, 0), (219, .invokevirtual 112, 222, 93, 1, 8, 615, 0), (222, .return_, 223, 0, 0, 0, 0, 0)]])
def hc_X8_tell : hC := (2, [[(0, .iload_n 1, 1, 1, 0, 0, 0, 0), (1, .tableswitch 196 0 16 #[83, 88, 93, 98, 103, 108, 113, 118, 123, 128, 141, 154, 159, 164, 169, 174, 187], 84, 0, 0, 0, 0, 0)], [], [], [], [], [(84, .aload_n 0, 85, 0, 0, 0, 0, 0), (85, .getfield 14, 88, 8, 0, 0, 208, 0), (88, .ireturn, 89, 0, 0, 0, 0, 0), (89, .aload_n 0, 90, 0, 0, 0, 0, 0), (90, .getfield 18, 93, 8, 1, 0, 211, 0), (93, .ireturn, 94, 0, 0, 0, 0, 0), (94, .aload_n 0, 95, 0, 0, 0, 0, 0), (95, .getfield 21, 98, 8, 2, 0, 214, 0)], [(98, .ireturn, 99, 0, 0, 0, 0, 0), (99, .aload_n 0, 100, 0, 0, 0, 0, 0), (100, .getfield 24, 103, 8, 3, 0, 215, 0), (103, .ireturn, 104, 0, 0, 0, 0, 0), (104, .aload_n 0, 105, 0, 0, 0, 0, 0), (105, .getfield 27, 108, 8, 4, 0, 216, 0), (108, .ireturn, 109, 0, 0, 0, 0, 0), (109, .aload_n 0, 110, 0, 0, 0, 0, 0), (110, .getfield 30, 113, 8, 5, 0, 218, 0)], [(113, .ireturn, 114, 0, 0, 0, 0, 0), (114, .aload_n 0, 115, 0, 0, 0, 0, 0), (115, .getfield 33, 118, 8, 6, 0, 220, 0), (118, .ireturn, 119, 0, 0, 0, 0, 0), (119, .aload_n 0, 120, 0, 0, 0, 0, 0), (120, .getfield 36, 123, 8, 7, 0, 222, 0), (123, .ireturn, 124, 0, 0, 0, 0, 0), (124, .aload_n 0, 125, 0, 0, 0, 0, 0), (125, .getfield 39, 128, 8, 8, 0, 223, 0)], [(128, .ireturn, 129, 0, 0, 0, 0, 0), (129, .aload_n 0, 130, 0, 0, 0, 0, 0), (130, .getfield 42, 133, 8, 9, 0, 225, 0), (133, .ifCond .eq 7, 136, 140, 0, 0, 0, 0), (136, .iconst 1, 137, 0, 0, 0, 0, 1), (137, .goto 4, 140, 141, 0, 0, 0, 0), (140, .iconst 0, 141, 0, 0, 0, 0, 0), (141, .ireturn, 142, 0, 0, 0, 0, 0), (142, .aload_n 0, 143, 0, 0, 0, 0, 0), (143, .getfield 46, 146, 8, 10, 0, 227, 0)], [(146, .ifCond .eq 7, 149, 153, 0, 0, 0, 0), (149, .iconst 1, 150, 0, 0, 0, 0, 1), (150, .goto 4, 153, 154, 0, 0, 0, 0), (153, .iconst 0, 154, 0, 0, 0, 0, 0), (154, .ireturn, 155, 0, 0, 0, 0, 0), (155, .aload_n 0, 156, 0, 0, 0, 0, 0), (156, .getfield 49, 159, 8, 11, 0, 229, 0), (159, .ireturn, 160, 0, 0, 0, 0, 0)], [(160, .aload_n 0, 161, 0, 0, 0, 0, 0), (161, .getfield 52, 164, 8, 12, 0, 230, 0), (164, .ireturn, 165, 0, 0, 0, 0, 0), (165, .aload_n 0, 166, 0, 0, 0, 0, 0), (166, .getfield 55, 169, 8, 13, 0, 231, 0), (169, .ireturn, 170, 0, 0, 0, 0, 0), (170, .aload_n 0, 171, 0, 0, 0, 0, 0), (171, .getfield 58, 174, 8, 14, 0, 232, 0), (174, .ireturn, 175, 0, 0, 0, 0, 0), (175, .aload_n 0, 176, 0, 0, 0, 0, 0)], [(176, .getfield 61, 179, 8, 15, 0, 233, 0), (179, .ifCond .eq 7, 182, 186, 0, 0, 0, 0), (182, .iconst 1, 183, 0, 0, 0, 0, 1), (183, .goto 4, 186, 187, 0, 0, 0, 0), (186, .iconst 0, 187, 0, 0, 0, 0, 0), (187, .ireturn, 188, 0, 0, 0, 0, 0), (188, .aload_n 0, 189, 0, 0, 0, 0, 0), (189, .aload_n 0, 190, 0, 0, 0, 0, 0), (190, .invokevirtual 89, 193, 88, 0, 8, 596, 1)], [(193, .invokevirtual 93, 196, 87, 1, 8, 604, 1), (196, .ireturn, 197, 0, 0, 0, 0, 0), (197, .aload_n 0, 198, 0, 0, 0, 0, 0), (198, .invokevirtual 89, 201, 88, 0, 8, 596, 1), (201, .ireturn, 202, 0, 0, 0, 0, 0)]])
def hc_X9_record : hC := (2, [[(0, .iload_n 1, 1, 1, 0, 0, 0, 0), (1, .ifCond .ge 7, 4, 8, 0, 0, 0, 0), (4, .iconst (-1), 5, 0, 0, 0, 0, (-1)), (5, .goto 14, 8, 19, 0, 0, 0, 0), (8, .aload_n 0, 9, 0, 0, 0, 0, 0), (9, .getfield 33, 12, 9, 3, 1, 389, 0), (12, .getfield 156, 15, 0, 1, 1, 288, 0), (15, .iload_n 1, 16, 1, 0, 0, 0, 0)], [(16, .invokevirtual 160, 19, 86, 1, 7, 657, 1), (19, .ireturn, 20, 0, 0, 0, 0, 0)]])
def hc_X0_tick : hC := (3, [[(0, .aload_n 0, 1, 0, 0, 0, 0, 0), (1, .getfield 12, 4, 0, 0, 1, 285, 0), (4, .getfield 43, 7, 8, 0, 0, 209, 0), (7, .iconst 5, 8, 0, 0, 0, 0, 5), (8, .if_icmp .ne 7, 11, 15, 0, 0, 0, 0), (11, .iconst 1, 12, 0, 0, 0, 0, 1), (12, .goto 4, 15, 16, 0, 0, 0, 0), (15, .iconst 0, 16, 0, 0, 0, 0, 0)], [(16, .istore_n 2, 17, 2, 0, 0, 0, 0), (17, .aload_n 0, 18, 0, 0, 0, 0, 0), (18, .getfield 12, 21, 0, 0, 1, 285, 0), (21, .aload_n 1, 22, 1, 0, 0, 0, 0), (22, .invokevirtual 46, 25, 111, 1, 8, 569, 0), (25, .iload_n 2, 26, 2, 0, 0, 0, 0), (26, .ifCond .ne 24, 29, 50, 0, 0, 0, 0), (29, .aload_n 0, 30, 0, 0, 0, 0, 0), (30, .getfield 12, 33, 0, 0, 1, 285, 0)], [(33, .getfield 43, 36, 8, 0, 0, 209, 0), (36, .iconst 5, 37, 0, 0, 0, 0, 5), (37, .if_icmp .ne 13, 40, 50, 0, 0, 0, 0), (40, .aload_n 0, 41, 0, 0, 0, 0, 0), (41, .dup, 42, 0, 0, 0, 0, 0), (42, .getfield 33, 45, 0, 3, 0, 291, 0), (45, .iconst 1, 46, 0, 0, 0, 0, 1), (46, .iadd, 47, 0, 0, 0, 0, 0), (47, .putfield 33, 50, 0, 3, 0, 291, 0)], [(50, .aload_n 0, 51, 0, 0, 0, 0, 0), (51, .getfield 21, 54, 0, 1, 1, 287, 0), (54, .aload_n 0, 55, 0, 0, 0, 0, 0), (55, .getfield 12, 58, 0, 0, 1, 285, 0), (58, .getfield 50, 61, 8, 1, 0, 212, 0), (61, .invokevirtual 53, 64, 83, 1, 7, 623, 0)], [(64, .aload_n 0, 65, 0, 0, 0, 0, 0), (65, .dup, 66, 0, 0, 0, 0, 0), (66, .getfield 29, 69, 0, 2, 0, 289, 0), (69, .iconst 1, 70, 0, 0, 0, 0, 1), (70, .iadd, 71, 0, 0, 0, 0, 0), (71, .putfield 29, 74, 0, 2, 0, 289, 0), (74, .return_, 75, 0, 0, 0, 0, 0)]])
def hc_X10_halvesOf : hC := (2, [[(0, .aload_n 0, 1, 0, 0, 0, 0, 0), (1, .invokevirtual 200, 4, 104, 0, 10, 1054, 0), (4, .aload_n 0, 5, 0, 0, 0, 0, 0), (5, .getfield 44, 8, 10, 21, 1, 824, 0), (8, .iload_n 1, 9, 1, 0, 0, 0, 0), (9, .iaload, 10, 0, 0, 0, 0, 0), (10, .ireturn, 11, 0, 0, 0, 0, 0)]])
def hc_X10_holds : hC := (5, [[(0, .aload_n 1, 1, 1, 0, 0, 0, 0), (1, .iconst 2, 2, 0, 0, 0, 0, 2), (2, .aload_n 1, 3, 1, 0, 0, 0, 0), (3, .iconst 2, 4, 0, 0, 0, 0, 2), (4, .iaload, 5, 0, 0, 0, 0, 0), (5, .aload_n 0, 6, 0, 0, 0, 0, 0), (6, .aload_n 1, 7, 1, 0, 0, 0, 0), (7, .invokevirtual 131, 10, 16, 1, 10, 986, 1), (10, .aload_n 1, 11, 1, 0, 0, 0, 0), (11, .iconst 0, 12, 0, 0, 0, 0, 0), (12, .iaload, 13, 0, 0, 0, 0, 0), (13, .iconst 5, 14, 0, 0, 0, 0, 5), (14, .if_icmp .ne 14, 17, 28, 0, 0, 0, 0)], [(17, .iconst 2, 18, 0, 0, 0, 0, 2), (18, .aload_n 0, 19, 0, 0, 0, 0, 0), (19, .getfield 26, 22, 10, 6, 1, 809, 0), (22, .iconst 5, 23, 0, 0, 0, 0, 5), (23, .iaload, 24, 0, 0, 0, 0, 0), (24, .imul, 25, 0, 0, 0, 0, 0), (25, .goto 9, 28, 34, 0, 0, 0, 0), (28, .aload_n 0, 29, 0, 0, 0, 0, 0), (29, .getfield 26, 32, 10, 6, 1, 809, 0)], [(32, .iconst 5, 33, 0, 0, 0, 0, 5), (33, .iaload, 34, 0, 0, 0, 0, 0), (34, .invokestatic 134, 37, 20, 3, 0, 990, 1), (37, .iastore, 38, 0, 0, 0, 0, 0), (38, .aload_n 1, 39, 1, 0, 0, 0, 0), (39, .iconst 0, 40, 0, 0, 0, 0, 0), (40, .iaload, 41, 0, 0, 0, 0, 0), (41, .iconst 2, 42, 0, 0, 0, 0, 2), (42, .if_icmp .ne 11, 45, 53, 0, 0, 0, 0), (45, .aload_n 1, 46, 1, 0, 0, 0, 0), (46, .iconst 1, 47, 0, 0, 0, 0, 1), (47, .iaload, 48, 0, 0, 0, 0, 0)], [(48, .iconst 2, 49, 0, 0, 0, 0, 2), (49, .idiv, 50, 0, 0, 0, 0, 0), (50, .goto 22, 53, 72, 0, 0, 0, 0), (53, .aload_n 1, 54, 1, 0, 0, 0, 0), (54, .iconst 0, 55, 0, 0, 0, 0, 0), (55, .iaload, 56, 0, 0, 0, 0, 0), (56, .iconst 3, 57, 0, 0, 0, 0, 3), (57, .if_icmp .ne 14, 60, 71, 0, 0, 0, 0), (60, .aload_n 0, 61, 0, 0, 0, 0, 0), (61, .getfield 26, 64, 10, 6, 1, 809, 0)], [(64, .iconst 0, 65, 0, 0, 0, 0, 0), (65, .iaload, 66, 0, 0, 0, 0, 0), (66, .iconst 2, 67, 0, 0, 0, 0, 2), (67, .idiv, 68, 0, 0, 0, 0, 0), (68, .goto 4, 71, 72, 0, 0, 0, 0), (71, .iconst 0, 72, 0, 0, 0, 0, 0), (72, .istore_n 2, 73, 2, 0, 0, 0, 0), (73, .aload_n 1, 74, 1, 0, 0, 0, 0), (74, .iconst 3, 75, 0, 0, 0, 0, 3), (75, .aload_n 1, 76, 1, 0, 0, 0, 0), (76, .bipush 9, 78, 0, 0, 0, 0, 9), (78, .iaload, 79, 0, 0, 0, 0, 0), (79, .ifCond .ne 7, 82, 86, 0, 0, 0, 0)], [(82, .iconst 0, 83, 0, 0, 0, 0, 0), (83, .goto 12, 86, 95, 0, 0, 0, 0), (86, .aload_n 1, 87, 1, 0, 0, 0, 0), (87, .iconst 3, 88, 0, 0, 0, 0, 3), (88, .iaload, 89, 0, 0, 0, 0, 0), (89, .iload_n 2, 90, 2, 0, 0, 0, 0), (90, .bipush 10, 92, 0, 0, 0, 0, 10), (92, .invokestatic 134, 95, 20, 3, 0, 990, 1), (95, .iastore, 96, 0, 0, 0, 0, 0)], [(96, .aload_n 1, 97, 1, 0, 0, 0, 0), (97, .iconst 1, 98, 0, 0, 0, 0, 1), (98, .iaload, 99, 0, 0, 0, 0, 0), (99, .ifCond .ne 7, 102, 106, 0, 0, 0, 0), (102, .iconst 0, 103, 0, 0, 0, 0, 0), (103, .goto 11, 106, 114, 0, 0, 0, 0), (106, .aload_n 1, 107, 1, 0, 0, 0, 0), (107, .iconst 1, 108, 0, 0, 0, 0, 1), (108, .iaload, 109, 0, 0, 0, 0, 0), (109, .bipush 10, 111, 0, 0, 0, 0, 10), (111, .idiv, 112, 0, 0, 0, 0, 0)], [(112, .iconst 1, 113, 0, 0, 0, 0, 1), (113, .iadd, 114, 0, 0, 0, 0, 0), (114, .istore_n 3, 115, 3, 0, 0, 0, 0), (115, .aload_n 0, 116, 0, 0, 0, 0, 0), (116, .aload_n 1, 117, 1, 0, 0, 0, 0), (117, .invokevirtual 138, 120, 99, 1, 10, 993, 1), (120, .aload_n 1, 121, 1, 0, 0, 0, 0), (121, .iconst 3, 122, 0, 0, 0, 0, 3), (122, .iaload, 123, 0, 0, 0, 0, 0), (123, .isub, 124, 0, 0, 0, 0, 0), (124, .iload_n 3, 125, 3, 0, 0, 0, 0), (125, .isub, 126, 0, 0, 0, 0, 0), (126, .istore 4, 128, 4, 0, 0, 0, 0)], [(128, .aload_n 1, 129, 1, 0, 0, 0, 0), (129, .iconst 1, 130, 0, 0, 0, 0, 1), (130, .dup2, 131, 0, 0, 0, 0, 0), (131, .iaload, 132, 0, 0, 0, 0, 0), (132, .iload 4, 134, 4, 0, 0, 0, 0), (134, .ifCond .lt 11, 137, 145, 0, 0, 0, 0), (137, .iload 4, 139, 4, 0, 0, 0, 0), (139, .bipush 8, 141, 0, 0, 0, 0, 8), (141, .idiv, 142, 0, 0, 0, 0, 0), (142, .goto 12, 145, 154, 0, 0, 0, 0)], [(145, .bipush 7, 147, 0, 0, 0, 0, 7), (147, .iload 4, 149, 4, 0, 0, 0, 0), (149, .isub, 150, 0, 0, 0, 0, 0), (150, .bipush 8, 152, 0, 0, 0, 0, 8), (152, .idiv, 153, 0, 0, 0, 0, 0), (153, .ineg, 154, 0, 0, 0, 0, 0), (154, .iadd, 155, 0, 0, 0, 0, 0), (155, .iastore, 156, 0, 0, 0, 0, 0), (156, .aload_n 1, 157, 1, 0, 0, 0, 0), (157, .iconst 1, 158, 0, 0, 0, 0, 1), (158, .aload_n 1, 159, 1, 0, 0, 0, 0), (159, .iconst 1, 160, 0, 0, 0, 0, 1)], [(160, .iaload, 161, 0, 0, 0, 0, 0), (161, .ifCond .ge 7, 164, 168, 0, 0, 0, 0), (164, .iconst 0, 165, 0, 0, 0, 0, 0), (165, .goto 6, 168, 171, 0, 0, 0, 0), (168, .aload_n 1, 169, 1, 0, 0, 0, 0), (169, .iconst 1, 170, 0, 0, 0, 0, 1), (170, .iaload, 171, 0, 0, 0, 0, 0), (171, .iastore, 172, 0, 0, 0, 0, 0), (172, .return_, 173, 0, 0, 0, 0, 0)]])
def hc_X10_must : hC := (2, [[(0, .iload_n 1, 1, 1, 0, 0, 0, 0), (1, .ifCond .ne 20, 4, 21, 0, 0, 0, 0), (4, .aload_n 0, 5, 0, 0, 0, 0, 0), (5, .getfield 87, 8, 10, 13, 0, 816, 0), (8, .bipush (-9), 10, 0, 0, 0, 0, (-9)), (10, .if_icmp .ne 11, 13, 21, 0, 0, 0, 0), (13, .aload_n 0, 14, 0, 0, 0, 0, 0), (14, .aload_n 0, 15, 0, 0, 0, 0, 0), (15, .getfield 70, 18, 10, 10, 0, 813, 0)], [(18, .putfield 87, 21, 10, 13, 0, 816, 0), (21, .aload_n 0, 22, 0, 0, 0, 0, 0), (22, .getfield 87, 25, 10, 13, 0, 816, 0), (25, .bipush (-9), 27, 0, 0, 0, 0, (-9)), (27, .if_icmp .ne 7, 30, 34, 0, 0, 0, 0), (30, .aload_n 0, 31, 0, 0, 0, 0, 0), (31, .invokevirtual 90, 34, 103, 0, 10, 897, 0)], [(34, .return_, 35, 0, 0, 0, 0, 0)]])
def hc_X10_now : hC := (2, [[(0, .iload_n 1, 1, 1, 0, 0, 0, 0), (1, .iconst 0, 2, 0, 0, 0, 0, 0), (2, .bipush 17, 4, 0, 0, 0, 0, 17), (4, .invokestatic 59, 7, 10, 3, 0, 886, 1), (7, .ifCond .ne 6, 10, 13, 0, 0, 0, 0), (10, .ldc 170, 12, 0, 0, 0, 1017, (-1000000)), (12, .ireturn, 13, 0, 0, 0, 0, 0), (13, .iload_n 1, 14, 1, 0, 0, 0, 0), (14, .bipush 16, 16, 0, 0, 0, 0, 16)], [(16, .if_icmp .ge 12, 19, 28, 0, 0, 0, 0), (19, .aload_n 0, 20, 0, 0, 0, 0, 0), (20, .getfield 7, 23, 10, 0, 1, 803, 0), (23, .iload_n 1, 24, 1, 0, 0, 0, 0), (24, .iaload, 25, 0, 0, 0, 0, 0), (25, .goto 28, 28, 53, 0, 0, 0, 0), (28, .iload_n 1, 29, 1, 0, 0, 0, 0), (29, .bipush 16, 31, 0, 0, 0, 0, 16), (31, .if_icmp .ne 14, 34, 45, 0, 0, 0, 0)], [(34, .aload_n 0, 35, 0, 0, 0, 0, 0), (35, .aload_n 0, 36, 0, 0, 0, 0, 0), (36, .getfield 7, 39, 10, 0, 1, 803, 0), (39, .invokevirtual 138, 42, 99, 1, 10, 993, 1), (42, .goto 11, 45, 53, 0, 0, 0, 0), (45, .aload_n 0, 46, 0, 0, 0, 0, 0), (46, .aload_n 0, 47, 0, 0, 0, 0, 0), (47, .getfield 7, 50, 10, 0, 1, 803, 0)], [(50, .invokevirtual 123, 53, 60, 1, 10, 978, 1), (53, .ireturn, 54, 0, 0, 0, 0, 0)]])
def hc_X10_rain : hC := (6, [[(0, .iload_n 1, 1, 1, 0, 0, 0, 0), (1, .iconst 0, 2, 0, 0, 0, 0, 0), (2, .iconst 4, 3, 0, 0, 0, 0, 4), (3, .invokestatic 59, 6, 10, 3, 0, 886, 1), (6, .ifCond .ne 5, 9, 11, 0, 0, 0, 0), (9, .iconst (-1), 10, 0, 0, 0, 0, (-1)), (10, .ireturn, 11, 0, 0, 0, 0, 0), (11, .aload_n 0, 12, 0, 0, 0, 0, 0), (12, .invokevirtual 200, 15, 104, 0, 10, 1054, 0), (15, .iconst 0, 16, 0, 0, 0, 0, 0)], [(16, .istore_n 2, 17, 2, 0, 0, 0, 0), (17, .bipush (-9), 19, 0, 0, 0, 0, (-9)), (19, .istore_n 3, 20, 3, 0, 0, 0, 0), (20, .iconst 0, 21, 0, 0, 0, 0, 0), (21, .istore 4, 23, 4, 0, 0, 0, 0), (23, .iconst 0, 24, 0, 0, 0, 0, 0), (24, .istore 5, 26, 5, 0, 0, 0, 0), (26, .iload 5, 28, 5, 0, 0, 0, 0), (28, .sipush 1000, 31, 0, 0, 0, 0, 1000), (31, .if_icmp .ge 56, 34, 87, 0, 0, 0, 0)], [(34, .iload_n 2, 35, 2, 0, 0, 0, 0), (35, .aload_n 0, 36, 0, 0, 0, 0, 0), (36, .getfield 44, 39, 10, 21, 1, 824, 0), (39, .iload 5, 41, 5, 0, 0, 0, 0), (41, .iaload, 42, 0, 0, 0, 0, 0), (42, .ifCond .le 7, 45, 49, 0, 0, 0, 0), (45, .iconst 1, 46, 0, 0, 0, 0, 1), (46, .goto 4, 49, 50, 0, 0, 0, 0)], [(49, .iconst 0, 50, 0, 0, 0, 0, 0), (50, .iadd, 51, 0, 0, 0, 0, 0), (51, .istore_n 2, 52, 2, 0, 0, 0, 0), (52, .aload_n 0, 53, 0, 0, 0, 0, 0), (53, .getfield 44, 56, 10, 21, 1, 824, 0), (56, .iload 5, 58, 5, 0, 0, 0, 0), (58, .iaload, 59, 0, 0, 0, 0, 0), (59, .ifCond .le 8, 62, 67, 0, 0, 0, 0), (62, .iload 5, 64, 5, 0, 0, 0, 0)], [(64, .goto 4, 67, 68, 0, 0, 0, 0), (67, .iload_n 3, 68, 3, 0, 0, 0, 0), (68, .istore_n 3, 69, 3, 0, 0, 0, 0), (69, .iload 4, 71, 4, 0, 0, 0, 0), (71, .aload_n 0, 72, 0, 0, 0, 0, 0), (72, .getfield 44, 75, 10, 21, 1, 824, 0), (75, .iload 5, 77, 5, 0, 0, 0, 0), (77, .iaload, 78, 0, 0, 0, 0, 0), (78, .iadd, 79, 0, 0, 0, 0, 0), (79, .istore 4, 81, 4, 0, 0, 0, 0)], [(81, .iinc 5 1, 84, 5, 0, 0, 0, 1), (84, .goto (-58), 87, 26, 0, 0, 0, 0), (87, .iload_n 1, 88, 1, 0, 0, 0, 0), (88, .ifCond .ne 7, 91, 95, 0, 0, 0, 0), (91, .iload_n 2, 92, 2, 0, 0, 0, 0), (92, .goto 38, 95, 130, 0, 0, 0, 0), (95, .iload_n 1, 96, 1, 0, 0, 0, 0)], [(96, .iconst 1, 97, 0, 0, 0, 0, 1), (97, .if_icmp .ne 7, 100, 104, 0, 0, 0, 0), (100, .iload_n 3, 101, 3, 0, 0, 0, 0), (101, .goto 29, 104, 130, 0, 0, 0, 0), (104, .iload_n 1, 105, 1, 0, 0, 0, 0), (105, .iconst 2, 106, 0, 0, 0, 0, 2), (106, .if_icmp .ne 8, 109, 114, 0, 0, 0, 0), (109, .iload 4, 111, 4, 0, 0, 0, 0), (111, .goto 19, 114, 130, 0, 0, 0, 0)], [(114, .iload_n 1, 115, 1, 0, 0, 0, 0), (115, .iconst 3, 116, 0, 0, 0, 0, 3), (116, .if_icmp .ne 10, 119, 126, 0, 0, 0, 0), (119, .aload_n 0, 120, 0, 0, 0, 0, 0), (120, .getfield 194, 123, 10, 22, 0, 825, 0), (123, .goto 7, 126, 130, 0, 0, 0, 0), (126, .aload_n 0, 127, 0, 0, 0, 0, 0), (127, .getfield 185, 130, 10, 18, 0, 821, 0)], [(130, .ireturn, 131, 0, 0, 0, 0, 0)]])
def hc_X1_add : hC := (2, [[(0, .aload_n 0, 1, 0, 0, 0, 0, 0), (1, .getfield 11, 4, 1, 0, 1, 311, 0), (4, .aload_n 0, 5, 0, 0, 0, 0, 0), (5, .getfield 22, 8, 1, 1, 0, 312, 0), (8, .bipush 6, 10, 0, 0, 0, 0, 6), (10, .invokestatic 25, 13, 3, 2, 0, 524, 1), (13, .aaload, 14, 0, 0, 0, 0, 0), (14, .aload_n 1, 15, 1, 0, 0, 0, 0), (15, .invokevirtual 31, 18, 97, 1, 0, 527, 0)], [(18, .aload_n 0, 19, 0, 0, 0, 0, 0), (19, .aload_n 0, 20, 0, 0, 0, 0, 0), (20, .getfield 22, 23, 1, 1, 0, 312, 0), (23, .iconst 1, 24, 0, 0, 0, 0, 1), (24, .iadd, 25, 0, 0, 0, 0, 0), (25, .bipush 6, 27, 0, 0, 0, 0, 6), (27, .invokestatic 25, 30, 3, 2, 0, 524, 1), (30, .putfield 22, 33, 1, 1, 0, 312, 0)], [(33, .aload_n 0, 34, 0, 0, 0, 0, 0), (34, .bipush 6, 36, 0, 0, 0, 0, 6), (36, .aload_n 0, 37, 0, 0, 0, 0, 0), (37, .getfield 18, 40, 1, 2, 0, 313, 0), (40, .iconst 1, 41, 0, 0, 0, 0, 1), (41, .iadd, 42, 0, 0, 0, 0, 0), (42, .invokestatic 35, 45, 5, 2, 0, 542, 1), (45, .putfield 18, 48, 1, 2, 0, 313, 0)], [(48, .return_, 49, 0, 0, 0, 0, 0)]])
def hc_X1_init : hC := (2, [[(0, .aload_n 0, 1, 0, 0, 0, 0, 0), (1, .invokespecial 3, 4, 9998, 0, 0, 307, 0), (4, .aload_n 0, 5, 0, 0, 0, 0, 0), (5, .bipush 6, 7, 0, 0, 0, 0, 6), (7, .anewarray 9, 10, 30000, 0, 0, 308, 0), (10, .putfield 11, 13, 1, 0, 1, 311, 0), (13, .iconst 0, 14, 0, 0, 0, 0, 0), (14, .istore_n 1, 15, 1, 0, 0, 0, 0), (15, .iload_n 1, 16, 1, 0, 0, 0, 0)], [(16, .bipush 6, 18, 0, 0, 0, 0, 6), (18, .if_icmp .ge 22, 21, 40, 0, 0, 0, 0), (21, .aload_n 0, 22, 0, 0, 0, 0, 0), (22, .getfield 11, 25, 1, 0, 1, 311, 0), (25, .iload_n 1, 26, 1, 0, 0, 0, 0), (26, .new 9, 29, 0, 0, 0, 308, 0), (29, .dup, 30, 0, 0, 0, 0, 0), (30, .invokespecial 17, 33, 98, 0, 0, 310, 0)], [(33, .aastore, 34, 0, 0, 0, 0, 0), (34, .iinc 1 1, 37, 1, 0, 0, 0, 1), (37, .goto (-22), 40, 15, 0, 0, 0, 0), (40, .return_, 41, 0, 0, 0, 0, 0)]])
def hc_X1_takeLatest : hC := (2, [[(0, .aload_n 0, 1, 0, 0, 0, 0, 0), (1, .getfield 18, 4, 1, 2, 0, 313, 0), (4, .ifCond .le 41, 7, 45, 0, 0, 0, 0), (7, .aload_n 0, 8, 0, 0, 0, 0, 0), (8, .aload_n 0, 9, 0, 0, 0, 0, 0), (9, .getfield 22, 12, 1, 1, 0, 312, 0), (12, .iconst 1, 13, 0, 0, 0, 0, 1), (13, .isub, 14, 0, 0, 0, 0, 0), (14, .bipush 6, 16, 0, 0, 0, 0, 6)], [(16, .invokestatic 25, 19, 3, 2, 0, 524, 1), (19, .putfield 22, 22, 1, 1, 0, 312, 0), (22, .aload_n 1, 23, 1, 0, 0, 0, 0), (23, .aload_n 0, 24, 0, 0, 0, 0, 0), (24, .getfield 11, 27, 1, 0, 1, 311, 0), (27, .aload_n 0, 28, 0, 0, 0, 0, 0), (28, .getfield 22, 31, 1, 1, 0, 312, 0), (31, .aaload, 32, 0, 0, 0, 0, 0)], [(32, .invokevirtual 31, 35, 97, 1, 0, 527, 0), (35, .aload_n 0, 36, 0, 0, 0, 0, 0), (36, .dup, 37, 0, 0, 0, 0, 0), (37, .getfield 18, 40, 1, 2, 0, 313, 0), (40, .iconst 1, 41, 0, 0, 0, 0, 1), (41, .isub, 42, 0, 0, 0, 0, 0), (42, .putfield 18, 45, 1, 2, 0, 313, 0), (45, .return_, 46, 0, 0, 0, 0, 0)]])
def hc_X2_pour : hC := (3, [[(0, .aload_n 0, 1, 0, 0, 0, 0, 0), (1, .iconst 0, 2, 0, 0, 0, 0, 0), (2, .putfield 24, 5, 2, 1, 0, 357, 0), (5, .aload_n 0, 6, 0, 0, 0, 0, 0), (6, .iconst 0, 7, 0, 0, 0, 0, 0), (7, .putfield 28, 10, 2, 3, 0, 360, 0), (10, .aload_n 0, 11, 0, 0, 0, 0, 0), (11, .iconst 0, 12, 0, 0, 0, 0, 0), (12, .putfield 31, 15, 2, 6, 0, 363, 0), (15, .aload_n 0, 16, 0, 0, 0, 0, 0)], [(16, .iconst 0, 17, 0, 0, 0, 0, 0), (17, .putfield 34, 20, 2, 7, 0, 365, 0), (20, .aload_n 1, 21, 1, 0, 0, 0, 0), (21, .getfield 37, 24, 7, 2, 0, 276, 0), (24, .iconst 1, 25, 0, 0, 0, 0, 1), (25, .isub, 26, 0, 0, 0, 0, 0), (26, .istore_n 2, 27, 2, 0, 0, 0, 0), (27, .iload_n 2, 28, 2, 0, 0, 0, 0), (28, .ifCond .lt 18, 31, 46, 0, 0, 0, 0), (31, .aload_n 0, 32, 0, 0, 0, 0, 0)], [(32, .aload_n 1, 33, 1, 0, 0, 0, 0), (33, .iload_n 2, 34, 2, 0, 0, 0, 0), (34, .invokevirtual 42, 37, 86, 1, 7, 688, 1), (37, .invokevirtual 46, 40, 28, 1, 2, 689, 0), (40, .iinc 2 (-1), 43, 2, 0, 0, 0, (-1)), (43, .goto (-16), 46, 27, 0, 0, 0, 0), (46, .iconst 0, 47, 0, 0, 0, 0, 0), (47, .istore_n 2, 48, 2, 0, 0, 0, 0)], [(48, .iload_n 2, 49, 2, 0, 0, 0, 0), (49, .aload_n 0, 50, 0, 0, 0, 0, 0), (50, .getfield 24, 53, 2, 1, 0, 357, 0), (53, .if_icmp .ge 25, 56, 78, 0, 0, 0, 0), (56, .iload_n 2, 57, 2, 0, 0, 0, 0), (57, .bipush 40, 59, 0, 0, 0, 0, 40), (59, .if_icmp .ge 19, 62, 78, 0, 0, 0, 0), (62, .aload_n 0, 63, 0, 0, 0, 0, 0), (63, .aload_n 0, 64, 0, 0, 0, 0, 0)], [(64, .getfield 9, 67, 2, 0, 1, 356, 0), (67, .iload_n 2, 68, 2, 0, 0, 0, 0), (68, .iaload, 69, 0, 0, 0, 0, 0), (69, .invokevirtual 50, 72, 106, 1, 2, 693, 0), (72, .iinc 2 1, 75, 2, 0, 0, 0, 1), (75, .goto (-27), 78, 48, 0, 0, 0, 0), (78, .iconst 1, 79, 0, 0, 0, 0, 1), (79, .istore_n 2, 80, 2, 0, 0, 0, 0)], [(80, .iload_n 2, 81, 2, 0, 0, 0, 0), (81, .aload_n 0, 82, 0, 0, 0, 0, 0), (82, .getfield 28, 85, 2, 3, 0, 360, 0), (85, .if_icmp .ge 38, 88, 123, 0, 0, 0, 0), (88, .iload_n 2, 89, 2, 0, 0, 0, 0), (89, .bipush 40, 91, 0, 0, 0, 0, 40), (91, .if_icmp .ge 32, 94, 123, 0, 0, 0, 0), (94, .aload_n 0, 95, 0, 0, 0, 0, 0), (95, .aload_n 0, 96, 0, 0, 0, 0, 0)], [(96, .getfield 15, 99, 2, 2, 1, 359, 0), (99, .iload_n 2, 100, 2, 0, 0, 0, 0), (100, .iaload, 101, 0, 0, 0, 0, 0), (101, .aload_n 0, 102, 0, 0, 0, 0, 0), (102, .getfield 15, 105, 2, 2, 1, 359, 0), (105, .iload_n 2, 106, 2, 0, 0, 0, 0), (106, .iconst 1, 107, 0, 0, 0, 0, 1), (107, .isub, 108, 0, 0, 0, 0, 0), (108, .iaload, 109, 0, 0, 0, 0, 0), (109, .isub, 110, 0, 0, 0, 0, 0), (110, .invokestatic 53, 113, 1, 1, 0, 701, 1)], [(113, .iconst 1, 114, 0, 0, 0, 0, 1), (114, .invokevirtual 58, 117, 71, 2, 2, 704, 0), (117, .iinc 2 1, 120, 2, 0, 0, 0, 1), (120, .goto (-40), 123, 80, 0, 0, 0, 0), (123, .return_, 124, 0, 0, 0, 0, 0)]])
def hc_X3_takes : hC := (4, [[(0, .aload_n 0, 1, 0, 0, 0, 0, 0), (1, .getfield 21, 4, 3, 1, 0, 177, 0), (4, .lookupswitch 49 #[(0, 28), (1, 38)], 32, 0, 0, 0, 0, 0)], [], [(32, .aload_n 0, 33, 0, 0, 0, 0, 0), (33, .aload_n 1, 34, 1, 0, 0, 0, 0), (34, .iload_n 2, 35, 2, 0, 0, 0, 0), (35, .invokevirtual 57, 38, 39, 1, 6, 462, 1), (38, .invokevirtual 60, 41, 76, 1, 3, 463, 1), (41, .ireturn, 42, 0, 0, 2, 0, 0), (42, .aload_n 0, 43, 0, 0, 0, 0, 0), (43, .aload_n 1, 44, 1, 0, 0, 0, 0), (44, .iload_n 2, 45, 2, 0, 0, 0, 0), (45, .iload_n 3, 46, 3, 0, 0, 0, 0), (46, .invokevirtual 63, 49, 110, 2, 6, 474, 1)], [(49, .invokevirtual 67, 52, 108, 1, 3, 478, 1), (52, .ireturn, 53, 0, 0, 2, 0, 0), (53, .aload_n 0, 54, 0, 0, 0, 0, 0), (54, .aload_n 1, 55, 1, 0, 0, 0, 0), (55, .iload_n 2, 56, 2, 0, 0, 0, 0), (56, .invokevirtual 57, 59, 39, 1, 6, 462, 1), (59, .invokevirtual 70, 62, 32, 1, 3, 491, 1), (62, .ireturn, 63, 0, 0, 2, 0, 0)]])
def hc_X9_back : hC := (2, [[(0, .iload_n 1, 1, 1, 0, 0, 0, 0), (1, .iconst 0, 2, 0, 0, 0, 0, 0), (2, .iconst 1, 3, 0, 0, 0, 0, 1), (3, .invokestatic 73, 6, 52, 3, 0, 421, 1), (6, .ifCond .ne 5, 9, 11, 0, 0, 0, 0), (9, .iconst (-1), 10, 0, 0, 0, 0, (-1)), (10, .ireturn, 11, 0, 0, 0, 0, 0), (11, .aload_n 0, 12, 0, 0, 0, 0, 0), (12, .getfield 48, 15, 9, 6, 1, 392, 0), (15, .iload_n 1, 16, 1, 0, 0, 0, 0)], [(16, .baload, 17, 0, 0, 0, 0, 0), (17, .ifCond .ne 6, 20, 23, 0, 0, 0, 0), (20, .bipush (-2), 22, 0, 0, 0, 0, (-2)), (22, .ireturn, 23, 0, 0, 0, 0, 0), (23, .aload_n 0, 24, 0, 0, 0, 0, 0), (24, .getfield 33, 27, 9, 3, 1, 389, 0), (27, .aload_n 0, 28, 0, 0, 0, 0, 0), (28, .getfield 44, 31, 9, 5, 1, 391, 0), (31, .iload_n 1, 32, 1, 0, 0, 0, 0)], [(32, .aaload, 33, 0, 0, 0, 0, 0), (33, .invokevirtual 245, 36, 97, 1, 0, 780, 0), (36, .aload_n 0, 37, 0, 0, 0, 0, 0), (37, .getfield 40, 40, 9, 4, 1, 390, 0), (40, .invokevirtual 99, 43, 26, 0, 1, 508, 0), (43, .aload_n 0, 44, 0, 0, 0, 0, 0), (44, .getfield 33, 47, 9, 3, 1, 389, 0), (47, .getfield 140, 50, 0, 2, 0, 290, 0)], [(50, .ireturn, 51, 0, 0, 0, 0, 0)]])
def hc_X9_bearsGust : hC := (4, [[(0, .aload_n 0, 1, 0, 0, 0, 0, 0), (1, .getfield 69, 4, 9, 9, 1, 395, 0), (4, .aload_n 0, 5, 0, 0, 0, 0, 0), (5, .getfield 33, 8, 9, 3, 1, 389, 0), (8, .getfield 108, 11, 0, 0, 1, 286, 0), (11, .invokevirtual 169, 14, 42, 1, 8, 670, 0), (14, .iconst 0, 15, 0, 0, 0, 0, 0), (15, .istore_n 3, 16, 3, 0, 0, 0, 0)], [(16, .iload_n 3, 17, 3, 0, 0, 0, 0), (17, .bipush 60, 19, 0, 0, 0, 0, 60), (19, .if_icmp .ge 59, 22, 78, 0, 0, 0, 0), (22, .aload_n 0, 23, 0, 0, 0, 0, 0), (23, .getfield 69, 26, 9, 9, 1, 395, 0), (26, .iload_n 3, 27, 3, 0, 0, 0, 0), (27, .iload_n 2, 28, 2, 0, 0, 0, 0), (28, .if_icmp .ge 7, 31, 35, 0, 0, 0, 0), (31, .iload_n 1, 32, 1, 0, 0, 0, 0)], [(32, .goto 13, 35, 45, 0, 0, 0, 0), (35, .aload_n 0, 36, 0, 0, 0, 0, 0), (36, .getfield 33, 39, 9, 3, 1, 389, 0), (39, .getfield 108, 42, 0, 0, 1, 286, 0), (42, .getfield 111, 45, 8, 4, 0, 217, 0), (45, .putfield 111, 48, 8, 4, 0, 217, 0)], [(48, .aload_n 0, 49, 0, 0, 0, 0, 0), (49, .getfield 69, 52, 9, 9, 1, 395, 0), (52, .aload_n 0, 53, 0, 0, 0, 0, 0), (53, .getfield 10, 56, 9, 0, 1, 386, 0), (56, .invokevirtual 172, 59, 111, 1, 8, 671, 0), (59, .aload_n 0, 60, 0, 0, 0, 0, 0), (60, .getfield 69, 63, 9, 9, 1, 395, 0), (63, .getfield 128, 66, 8, 0, 0, 210, 0)], [(66, .iconst 5, 67, 0, 0, 0, 0, 5), (67, .if_icmp .ne 5, 70, 72, 0, 0, 0, 0), (70, .iconst 0, 71, 0, 0, 0, 0, 0), (71, .ireturn, 72, 0, 0, 2, 0, 0), (72, .iinc 3 1, 75, 3, 0, 0, 0, 1), (75, .goto (-59), 78, 16, 0, 0, 0, 0), (78, .iconst 1, 79, 0, 0, 0, 0, 1), (79, .ireturn, 80, 0, 0, 2, 0, 0)]])
def hc_X9_keep : hC := (2, [[(0, .iload_n 1, 1, 1, 0, 0, 0, 0), (1, .iconst 0, 2, 0, 0, 0, 0, 0), (2, .iconst 1, 3, 0, 0, 0, 0, 1), (3, .invokestatic 73, 6, 52, 3, 0, 421, 1), (6, .ifCond .ne 5, 9, 11, 0, 0, 0, 0), (9, .iconst (-1), 10, 0, 0, 0, 0, (-1)), (10, .ireturn, 11, 0, 0, 0, 0, 0), (11, .aload_n 0, 12, 0, 0, 0, 0, 0), (12, .getfield 44, 15, 9, 5, 1, 391, 0), (15, .iload_n 1, 16, 1, 0, 0, 0, 0)], [(16, .aaload, 17, 0, 0, 0, 0, 0), (17, .aload_n 0, 18, 0, 0, 0, 0, 0), (18, .getfield 33, 21, 9, 3, 1, 389, 0), (21, .invokevirtual 245, 24, 97, 1, 0, 780, 0), (24, .aload_n 0, 25, 0, 0, 0, 0, 0), (25, .getfield 48, 28, 9, 6, 1, 392, 0), (28, .iload_n 1, 29, 1, 0, 0, 0, 0), (29, .iconst 1, 30, 0, 0, 0, 0, 1), (30, .bastore, 31, 0, 0, 0, 0, 0), (31, .aload_n 0, 32, 0, 0, 0, 0, 0)], [(32, .getfield 33, 35, 9, 3, 1, 389, 0), (35, .getfield 140, 38, 0, 2, 0, 290, 0), (38, .ireturn, 39, 0, 0, 0, 0, 0)]])
def hc_X9_now : hC := (2, [[(0, .iload_n 1, 1, 1, 0, 0, 0, 0), (1, .iconst 0, 2, 0, 0, 0, 0, 0), (2, .bipush 17, 4, 0, 0, 0, 0, 17), (4, .invokestatic 73, 7, 52, 3, 0, 421, 1), (7, .ifCond .eq 17, 10, 24, 0, 0, 0, 0), (10, .aload_n 0, 11, 0, 0, 0, 0, 0), (11, .getfield 33, 14, 9, 3, 1, 389, 0), (14, .getfield 108, 17, 0, 0, 1, 286, 0)], [(17, .iload_n 1, 18, 1, 0, 0, 0, 0), (18, .invokevirtual 150, 21, 112, 1, 8, 640, 1), (21, .goto 5, 24, 26, 0, 0, 0, 0), (24, .ldc 154, 26, 0, 0, 0, 644, (-1000000)), (26, .ireturn, 27, 0, 0, 0, 0, 0)]])
def hc_X9_ridesDip : hC := (3, [[(0, .aload_n 0, 1, 0, 0, 0, 0, 0), (1, .getfield 69, 4, 9, 9, 1, 395, 0), (4, .aload_n 0, 5, 0, 0, 0, 0, 0), (5, .getfield 33, 8, 9, 3, 1, 389, 0), (8, .getfield 108, 11, 0, 0, 1, 286, 0), (11, .invokevirtual 169, 14, 42, 1, 8, 670, 0), (14, .iconst 0, 15, 0, 0, 0, 0, 0), (15, .istore_n 2, 16, 2, 0, 0, 0, 0)], [(16, .iload_n 2, 17, 2, 0, 0, 0, 0), (17, .bipush 60, 19, 0, 0, 0, 0, 60), (19, .if_icmp .ge 61, 22, 80, 0, 0, 0, 0), (22, .aload_n 0, 23, 0, 0, 0, 0, 0), (23, .getfield 69, 26, 9, 9, 1, 395, 0), (26, .iload_n 2, 27, 2, 0, 0, 0, 0), (27, .iload_n 1, 28, 1, 0, 0, 0, 0), (28, .if_icmp .lt 7, 31, 35, 0, 0, 0, 0), (31, .iconst 1, 32, 0, 0, 0, 0, 1)], [(32, .goto 4, 35, 36, 0, 0, 0, 0), (35, .iconst 0, 36, 0, 0, 0, 0, 0), (36, .putfield 124, 39, 8, 9, 2, 226, 0), (39, .aload_n 0, 40, 0, 0, 0, 0, 0), (40, .getfield 69, 43, 9, 9, 1, 395, 0), (43, .aload_n 0, 44, 0, 0, 0, 0, 0), (44, .getfield 10, 47, 9, 0, 1, 386, 0), (47, .invokevirtual 172, 50, 111, 1, 8, 671, 0)], [(50, .aload_n 0, 51, 0, 0, 0, 0, 0), (51, .getfield 69, 54, 9, 9, 1, 395, 0), (54, .getfield 128, 57, 8, 0, 0, 210, 0), (57, .iconst 4, 58, 0, 0, 0, 0, 4), (58, .if_icmp .eq 14, 61, 72, 0, 0, 0, 0), (61, .aload_n 0, 62, 0, 0, 0, 0, 0), (62, .getfield 69, 65, 9, 9, 1, 395, 0)], [(65, .getfield 128, 68, 8, 0, 0, 210, 0), (68, .iconst 5, 69, 0, 0, 0, 0, 5), (69, .if_icmp .ne 5, 72, 74, 0, 0, 0, 0), (72, .iconst 0, 73, 0, 0, 0, 0, 0), (73, .ireturn, 74, 0, 0, 2, 0, 0), (74, .iinc 2 1, 77, 2, 0, 0, 0, 1), (77, .goto (-61), 80, 16, 0, 0, 0, 0)], [(80, .iconst 1, 81, 0, 0, 0, 0, 1), (81, .ireturn, 82, 0, 0, 2, 0, 0)]])
def hc_X9_speedAfter : hC := (5, [[(0, .aload_n 0, 1, 0, 0, 0, 0, 0), (1, .getfield 69, 4, 9, 9, 1, 395, 0), (4, .aload_n 0, 5, 0, 0, 0, 0, 0), (5, .getfield 33, 8, 9, 3, 1, 389, 0), (8, .getfield 108, 11, 0, 0, 1, 286, 0), (11, .invokevirtual 169, 14, 42, 1, 8, 670, 0), (14, .aload_n 0, 15, 0, 0, 0, 0, 0), (15, .getfield 69, 18, 9, 9, 1, 395, 0)], [(18, .iload_n 2, 19, 2, 0, 0, 0, 0), (19, .putfield 111, 22, 8, 4, 0, 217, 0), (22, .aload_n 0, 23, 0, 0, 0, 0, 0), (23, .getfield 69, 26, 9, 9, 1, 395, 0), (26, .iload_n 3, 27, 3, 0, 0, 0, 0), (27, .putfield 121, 30, 8, 8, 0, 224, 0), (30, .iconst 0, 31, 0, 0, 0, 0, 0), (31, .istore 4, 33, 4, 0, 0, 0, 0)], [(33, .iload 4, 35, 4, 0, 0, 0, 0), (35, .iload_n 1, 36, 1, 0, 0, 0, 0), (36, .if_icmp .ge 20, 39, 56, 0, 0, 0, 0), (39, .aload_n 0, 40, 0, 0, 0, 0, 0), (40, .getfield 69, 43, 9, 9, 1, 395, 0), (43, .aload_n 0, 44, 0, 0, 0, 0, 0), (44, .getfield 10, 47, 9, 0, 1, 386, 0), (47, .invokevirtual 172, 50, 111, 1, 8, 671, 0)], [(50, .iinc 4 1, 53, 4, 0, 0, 0, 1), (53, .goto (-20), 56, 33, 0, 0, 0, 0), (56, .aload_n 0, 57, 0, 0, 0, 0, 0), (57, .getfield 69, 60, 9, 9, 1, 395, 0), (60, .getfield 134, 63, 8, 1, 0, 213, 0), (63, .ireturn, 64, 0, 0, 0, 0, 0)]])
def hc_X10_goesOn : hC := (4, [[(0, .aload_n 0, 1, 0, 0, 0, 0, 0), (1, .aload_n 1, 2, 1, 0, 0, 0, 0), (2, .invokevirtual 145, 5, 59, 1, 10, 963, 0), (5, .aload_n 0, 6, 0, 0, 0, 0, 0), (6, .aload_n 1, 7, 1, 0, 0, 0, 0), (7, .invokevirtual 149, 10, 102, 1, 10, 967, 1), (10, .istore_n 2, 11, 2, 0, 0, 0, 0), (11, .aload_n 1, 12, 1, 0, 0, 0, 0), (12, .bipush 17, 14, 0, 0, 0, 0, 17), (14, .dup2, 15, 0, 0, 0, 0, 0), (15, .iaload, 16, 0, 0, 0, 0, 0)], [(16, .iload_n 2, 17, 2, 0, 0, 0, 0), (17, .iconst 5, 18, 0, 0, 0, 0, 5), (18, .if_icmp .ne 14, 21, 32, 0, 0, 0, 0), (21, .aload_n 1, 22, 1, 0, 0, 0, 0), (22, .iconst 0, 23, 0, 0, 0, 0, 0), (23, .iaload, 24, 0, 0, 0, 0, 0), (24, .iconst 5, 25, 0, 0, 0, 0, 5), (25, .if_icmp .eq 7, 28, 32, 0, 0, 0, 0), (28, .iconst 1, 29, 0, 0, 0, 0, 1), (29, .goto 4, 32, 33, 0, 0, 0, 0)], [(32, .iconst 0, 33, 0, 0, 0, 0, 0), (33, .iadd, 34, 0, 0, 0, 0, 0), (34, .iastore, 35, 0, 0, 0, 0, 0), (35, .aload_n 1, 36, 1, 0, 0, 0, 0), (36, .iconst 0, 37, 0, 0, 0, 0, 0), (37, .iload_n 2, 38, 2, 0, 0, 0, 0), (38, .iastore, 39, 0, 0, 0, 0, 0), (39, .aload_n 0, 40, 0, 0, 0, 0, 0), (40, .aload_n 1, 41, 1, 0, 0, 0, 0), (41, .invokevirtual 123, 44, 60, 1, 10, 978, 1), (44, .istore_n 3, 45, 3, 0, 0, 0, 0), (45, .aload_n 0, 46, 0, 0, 0, 0, 0), (46, .aload_n 1, 47, 1, 0, 0, 0, 0), (47, .invokevirtual 152, 50, 116, 1, 10, 982, 0)], [(50, .aload_n 0, 51, 0, 0, 0, 0, 0), (51, .aload_n 1, 52, 1, 0, 0, 0, 0), (52, .iload_n 3, 53, 3, 0, 0, 0, 0), (53, .invokevirtual 155, 56, 101, 2, 10, 997, 0), (56, .return_, 57, 0, 0, 0, 0, 0)]])
def hc_X10_halves : hC := (2, [[(0, .iload_n 1, 1, 1, 0, 0, 0, 0), (1, .iconst 0, 2, 0, 0, 0, 0, 0), (2, .sipush 999, 5, 0, 0, 0, 0, 999), (5, .invokestatic 59, 8, 10, 3, 0, 886, 1), (8, .ifCond .eq 11, 11, 19, 0, 0, 0, 0), (11, .aload_n 0, 12, 0, 0, 0, 0, 0), (12, .iload_n 1, 13, 1, 0, 0, 0, 0), (13, .invokevirtual 203, 16, 115, 1, 10, 1050, 1)], [(16, .goto 4, 19, 20, 0, 0, 0, 0), (19, .iconst (-1), 20, 0, 0, 0, 0, (-1)), (20, .ireturn, 21, 0, 0, 0, 0, 0)]])
def hc_X10_readsItem : hC := (3, [[(0, .aload_n 0, 1, 0, 0, 0, 0, 0), (1, .getfield 73, 4, 10, 11, 0, 814, 0), (4, .invokestatic 83, 7, 25, 1, 0, 905, 1), (7, .istore_n 1, 8, 1, 0, 0, 0, 0), (8, .aload_n 0, 9, 0, 0, 0, 0, 0), (9, .iload_n 1, 10, 1, 0, 0, 0, 0), (10, .bipush (-9), 12, 0, 0, 0, 0, (-9)), (12, .if_icmp .eq 27, 15, 39, 0, 0, 0, 0), (15, .aload_n 0, 16, 0, 0, 0, 0, 0)], [(16, .iload_n 1, 17, 1, 0, 0, 0, 0), (17, .invokevirtual 96, 20, 11, 1, 10, 912, 1), (20, .ifCond .ne 19, 23, 39, 0, 0, 0, 0), (23, .iload_n 1, 24, 1, 0, 0, 0, 0), (24, .ifCond .ne 11, 27, 35, 0, 0, 0, 0), (27, .aload_n 0, 28, 0, 0, 0, 0, 0), (28, .iconst 1, 29, 0, 0, 0, 0, 1), (29, .invokevirtual 96, 32, 11, 1, 10, 912, 1)], [(32, .ifCond .ne 7, 35, 39, 0, 0, 0, 0), (35, .iconst 1, 36, 0, 0, 0, 0, 1), (36, .goto 4, 39, 40, 0, 0, 0, 0), (39, .iconst 0, 40, 0, 0, 0, 0, 0), (40, .invokevirtual 100, 43, 117, 1, 10, 916, 0), (43, .aload_n 0, 44, 0, 0, 0, 0, 0), (44, .getfield 87, 47, 10, 13, 0, 816, 0), (47, .bipush (-9), 49, 0, 0, 0, 0, (-9))], [(49, .if_icmp .ne 83, 52, 132, 0, 0, 0, 0), (52, .aload_n 0, 53, 0, 0, 0, 0, 0), (53, .getfield 80, 56, 10, 12, 0, 815, 0), (56, .istore_n 2, 57, 2, 0, 0, 0, 0), (57, .aload_n 0, 58, 0, 0, 0, 0, 0), (58, .aload_n 0, 59, 0, 0, 0, 0, 0), (59, .getfield 73, 62, 10, 11, 0, 814, 0), (62, .iconst 1, 63, 0, 0, 0, 0, 1), (63, .if_icmp .ne 23, 66, 86, 0, 0, 0, 0)], [(66, .iload_n 2, 67, 2, 0, 0, 0, 0), (67, .aload_n 0, 68, 0, 0, 0, 0, 0), (68, .iload_n 1, 69, 1, 0, 0, 0, 0), (69, .invokevirtual 104, 72, 12, 1, 10, 920, 1), (72, .iload_n 1, 73, 1, 0, 0, 0, 0), (73, .invokestatic 107, 76, 13, 1, 0, 924, 1), (76, .invokestatic 59, 79, 10, 3, 0, 886, 1), (79, .ifCond .eq 7, 82, 86, 0, 0, 0, 0)], [(82, .iconst 1, 83, 0, 0, 0, 0, 1), (83, .goto 4, 86, 87, 0, 0, 0, 0), (86, .iconst 0, 87, 0, 0, 0, 0, 0), (87, .invokevirtual 100, 90, 117, 1, 10, 916, 0), (90, .aload_n 0, 91, 0, 0, 0, 0, 0), (91, .getfield 32, 94, 10, 14, 1, 817, 0), (94, .iload_n 1, 95, 1, 0, 0, 0, 0), (95, .iload_n 2, 96, 2, 0, 0, 0, 0)], [(96, .iastore, 97, 0, 0, 0, 0, 0), (97, .aload_n 0, 98, 0, 0, 0, 0, 0), (98, .getfield 32, 101, 10, 14, 1, 817, 0), (101, .iconst 1, 102, 0, 0, 0, 0, 1), (102, .iload_n 1, 103, 1, 0, 0, 0, 0), (103, .ifCond .ne 10, 106, 113, 0, 0, 0, 0), (106, .iload_n 2, 107, 2, 0, 0, 0, 0), (107, .bipush 30, 109, 0, 0, 0, 0, 30), (109, .iadd, 110, 0, 0, 0, 0, 0), (110, .goto 9, 113, 119, 0, 0, 0, 0)], [(113, .aload_n 0, 114, 0, 0, 0, 0, 0), (114, .getfield 32, 117, 10, 14, 1, 817, 0), (117, .iconst 1, 118, 0, 0, 0, 0, 1), (118, .iaload, 119, 0, 0, 0, 0, 0), (119, .iastore, 120, 0, 0, 0, 0, 0), (120, .aload_n 0, 121, 0, 0, 0, 0, 0), (121, .dup, 122, 0, 0, 0, 0, 0), (122, .getfield 93, 125, 10, 15, 0, 818, 0), (125, .iconst 1, 126, 0, 0, 0, 0, 1), (126, .iload_n 1, 127, 1, 0, 0, 0, 0), (127, .ishl, 128, 0, 0, 0, 0, 0)], [(128, .ior, 129, 0, 0, 0, 0, 0), (129, .putfield 93, 132, 10, 15, 0, 818, 0), (132, .aload_n 0, 133, 0, 0, 0, 0, 0), (133, .aload_n 0, 134, 0, 0, 0, 0, 0), (134, .getfield 73, 137, 10, 11, 0, 814, 0), (137, .bipush 59, 139, 0, 0, 0, 0, 59), (139, .if_icmp .ne 7, 142, 146, 0, 0, 0, 0), (142, .iconst 1, 143, 0, 0, 0, 0, 1), (143, .goto 4, 146, 147, 0, 0, 0, 0)], [(146, .iconst 0, 147, 0, 0, 0, 0, 0), (147, .invokevirtual 100, 150, 117, 1, 10, 916, 0), (150, .return_, 151, 0, 0, 0, 0, 0)]])
def hc_X3_read : hC := (5, [[(0, .aload_n 0, 1, 0, 0, 0, 0, 0), (1, .getfield 12, 4, 3, 0, 1, 175, 0), (4, .invokevirtual 18, 7, 36, 0, 5, 440, 0), (7, .aload_n 0, 8, 0, 0, 0, 0, 0), (8, .iconst 0, 9, 0, 0, 0, 0, 0), (9, .putfield 21, 12, 3, 1, 0, 177, 0), (12, .aload_n 0, 13, 0, 0, 0, 0, 0), (13, .iconst 0, 14, 0, 0, 0, 0, 0), (14, .putfield 25, 17, 3, 3, 0, 179, 0)], [(17, .aload_n 0, 18, 0, 0, 0, 0, 0), (18, .iconst 0, 19, 0, 0, 0, 0, 0), (19, .putfield 28, 22, 3, 4, 0, 180, 0), (22, .aload_n 1, 23, 1, 0, 0, 0, 0), (23, .iconst 0, 24, 0, 0, 0, 0, 0), (24, .invokevirtual 31, 27, 80, 1, 6, 441, 1), (27, .istore_n 2, 28, 2, 0, 0, 0, 0), (28, .iconst 0, 29, 0, 0, 0, 0, 0), (29, .istore_n 3, 30, 3, 0, 0, 0, 0), (30, .iload_n 3, 31, 3, 0, 0, 0, 0), (31, .bipush 80, 33, 0, 0, 0, 0, 80)], [(33, .if_icmp .ge 47, 36, 80, 0, 0, 0, 0), (36, .iload_n 2, 37, 2, 0, 0, 0, 0), (37, .aload_n 1, 38, 1, 0, 0, 0, 0), (38, .getfield 37, 41, 6, 1, 0, 160, 0), (41, .if_icmp .ge 39, 44, 80, 0, 0, 0, 0), (44, .aload_n 1, 45, 1, 0, 0, 0, 0), (45, .iload_n 2, 46, 2, 0, 0, 0, 0), (46, .invokevirtual 40, 49, 109, 1, 6, 449, 1)], [(49, .istore 4, 51, 4, 0, 0, 0, 0), (51, .aload_n 0, 52, 0, 0, 0, 0, 0), (52, .aload_n 1, 53, 1, 0, 0, 0, 0), (53, .iload_n 2, 54, 2, 0, 0, 0, 0), (54, .iload 4, 56, 4, 0, 0, 0, 0), (56, .invokevirtual 43, 59, 124, 3, 3, 458, 1), (59, .ifCond .ne 8, 62, 67, 0, 0, 0, 0), (62, .bipush (-10), 64, 0, 0, 0, 0, (-10))], [(64, .iload_n 2, 65, 2, 0, 0, 0, 0), (65, .isub, 66, 0, 0, 0, 0, 0), (66, .ireturn, 67, 0, 0, 0, 0, 0), (67, .aload_n 1, 68, 1, 0, 0, 0, 0), (68, .iload 4, 70, 4, 0, 0, 0, 0), (70, .invokevirtual 31, 73, 80, 1, 6, 441, 1), (73, .istore_n 2, 74, 2, 0, 0, 0, 0), (74, .iinc 3 1, 77, 3, 0, 0, 0, 1), (77, .goto (-47), 80, 30, 0, 0, 0, 0)], [(80, .aload_n 0, 81, 0, 0, 0, 0, 0), (81, .getfield 21, 84, 3, 1, 0, 177, 0), (84, .ifCond .eq 11, 87, 95, 0, 0, 0, 0), (87, .bipush (-10), 89, 0, 0, 0, 0, (-10)), (89, .aload_n 1, 90, 1, 0, 0, 0, 0), (90, .getfield 37, 93, 6, 1, 0, 160, 0), (93, .isub, 94, 0, 0, 0, 0, 0), (94, .ireturn, 95, 0, 0, 0, 0, 0), (95, .aload_n 0, 96, 0, 0, 0, 0, 0)], [(96, .iconst 0, 97, 0, 0, 0, 0, 0), (97, .invokevirtual 47, 100, 30, 1, 3, 470, 1), (100, .ifCond .eq 28, 103, 128, 0, 0, 0, 0), (103, .aload_n 0, 104, 0, 0, 0, 0, 0), (104, .iconst 1, 105, 0, 0, 0, 0, 1), (105, .invokevirtual 47, 108, 30, 1, 3, 470, 1), (108, .ifCond .ne 20, 111, 128, 0, 0, 0, 0), (111, .aload_n 0, 112, 0, 0, 0, 0, 0)], [(112, .getfield 12, 115, 3, 0, 1, 175, 0), (115, .aload_n 0, 116, 0, 0, 0, 0, 0), (116, .getfield 12, 119, 3, 0, 1, 175, 0), (119, .getfield 51, 122, 5, 0, 0, 125, 0), (122, .bipush 30, 124, 0, 0, 0, 0, 30), (124, .iadd, 125, 0, 0, 0, 0, 0), (125, .putfield 54, 128, 5, 1, 0, 128, 0)], [(128, .aload_n 0, 129, 0, 0, 0, 0, 0), (129, .getfield 28, 132, 3, 4, 0, 180, 0), (132, .ireturn, 133, 0, 0, 0, 0, 0)]])
def hc_X9_agreesWithSeen : hC := (3, [[(0, .iconst 0, 1, 0, 0, 0, 0, 0), (1, .istore_n 2, 2, 2, 0, 0, 0, 0), (2, .iload_n 2, 3, 2, 0, 0, 0, 0), (3, .aload_n 0, 4, 0, 0, 0, 0, 0), (4, .getfield 55, 7, 9, 7, 1, 393, 0), (7, .getfield 105, 10, 4, 4, 0, 337, 0), (10, .if_icmp .ge 52, 13, 62, 0, 0, 0, 0), (13, .iload_n 2, 14, 2, 0, 0, 0, 0), (14, .bipush 6, 16, 0, 0, 0, 0, 6)], [(16, .if_icmp .ge 46, 19, 62, 0, 0, 0, 0), (19, .aload_n 0, 20, 0, 0, 0, 0, 0), (20, .aload_n 0, 21, 0, 0, 0, 0, 0), (21, .getfield 55, 24, 9, 7, 1, 393, 0), (24, .getfield 220, 27, 4, 0, 1, 329, 0), (27, .iload_n 2, 28, 2, 0, 0, 0, 0), (28, .iaload, 29, 0, 0, 0, 0, 0), (29, .aload_n 0, 30, 0, 0, 0, 0, 0), (30, .getfield 55, 33, 9, 7, 1, 393, 0)], [(33, .getfield 224, 36, 4, 1, 1, 331, 0), (36, .iload_n 2, 37, 2, 0, 0, 0, 0), (37, .iaload, 38, 0, 0, 0, 0, 0), (38, .iload_n 1, 39, 1, 0, 0, 0, 0), (39, .invokevirtual 227, 42, 130, 3, 9, 753, 1), (42, .aload_n 0, 43, 0, 0, 0, 0, 0), (43, .getfield 55, 46, 9, 7, 1, 393, 0), (46, .getfield 231, 49, 4, 2, 1, 333, 0)], [(49, .iload_n 2, 50, 2, 0, 0, 0, 0), (50, .iaload, 51, 0, 0, 0, 0, 0), (51, .if_icmp .eq 5, 54, 56, 0, 0, 0, 0), (54, .iconst 0, 55, 0, 0, 0, 0, 0), (55, .ireturn, 56, 0, 0, 2, 0, 0), (56, .iinc 2 1, 59, 2, 0, 0, 0, 1), (59, .goto (-57), 62, 2, 0, 0, 0, 0), (62, .iconst 1, 63, 0, 0, 0, 0, 1), (63, .ireturn, 64, 0, 0, 2, 0, 0)]])
def hc_X9_blows : hC := (5, [[(0, .iload_n 1, 1, 1, 0, 0, 0, 0), (1, .iconst 0, 2, 0, 0, 0, 0, 0), (2, .bipush 40, 4, 0, 0, 0, 0, 40), (4, .invokestatic 73, 7, 52, 3, 0, 421, 1), (7, .ifCond .eq 13, 10, 20, 0, 0, 0, 0), (10, .iload_n 2, 11, 2, 0, 0, 0, 0), (11, .iconst 0, 12, 0, 0, 0, 0, 0), (12, .bipush 35, 14, 0, 0, 0, 0, 35), (14, .invokestatic 73, 17, 52, 3, 0, 421, 1)], [(17, .ifCond .ne 5, 20, 22, 0, 0, 0, 0), (20, .iconst (-1), 21, 0, 0, 0, 0, (-1)), (21, .ireturn, 22, 0, 0, 0, 0, 0), (22, .aload_n 0, 23, 0, 0, 0, 0, 0), (23, .getfield 33, 26, 9, 3, 1, 389, 0), (26, .getfield 108, 29, 0, 0, 1, 286, 0), (29, .astore_n 3, 30, 3, 0, 0, 0, 0), (30, .aload_n 3, 31, 3, 0, 0, 0, 0), (31, .getfield 111, 34, 8, 4, 0, 217, 0)], [(34, .iload_n 1, 35, 1, 0, 0, 0, 0), (35, .if_icmp .ne 14, 38, 49, 0, 0, 0, 0), (38, .aload_n 3, 39, 3, 0, 0, 0, 0), (39, .getfield 114, 42, 8, 5, 0, 219, 0), (42, .iload_n 2, 43, 2, 0, 0, 0, 0), (43, .if_icmp .ne 6, 46, 49, 0, 0, 0, 0), (46, .bipush (-2), 48, 0, 0, 0, 0, (-2))], [(48, .ireturn, 49, 0, 0, 0, 0, 0), (49, .aload_n 0, 50, 0, 0, 0, 0, 0), (50, .getfield 40, 53, 9, 4, 1, 390, 0), (53, .aload_n 0, 54, 0, 0, 0, 0, 0), (54, .getfield 33, 57, 9, 3, 1, 389, 0), (57, .invokevirtual 117, 60, 120, 1, 1, 520, 0), (60, .aload_n 3, 61, 3, 0, 0, 0, 0), (61, .getfield 111, 64, 8, 4, 0, 217, 0)], [(64, .istore 4, 66, 4, 0, 0, 0, 0), (66, .aload_n 3, 67, 3, 0, 0, 0, 0), (67, .iload_n 1, 68, 1, 0, 0, 0, 0), (68, .putfield 111, 71, 8, 4, 0, 217, 0), (71, .aload_n 3, 72, 3, 0, 0, 0, 0), (72, .iload_n 2, 73, 2, 0, 0, 0, 0), (73, .putfield 114, 76, 8, 5, 0, 219, 0), (76, .iload 4, 78, 4, 0, 0, 0, 0), (78, .ireturn, 79, 0, 0, 0, 0, 0)]])
def hc_X9_dip : hC := (3, [[(0, .aload_n 0, 1, 0, 0, 0, 0, 0), (1, .getfield 33, 4, 9, 3, 1, 389, 0), (4, .getfield 108, 7, 0, 0, 1, 286, 0), (7, .getfield 128, 10, 8, 0, 0, 210, 0), (10, .istore_n 1, 11, 1, 0, 0, 0, 0), (11, .iload_n 1, 12, 1, 0, 0, 0, 0), (12, .iconst 2, 13, 0, 0, 0, 0, 2), (13, .if_icmp .eq 11, 16, 24, 0, 0, 0, 0)], [(16, .iload_n 1, 17, 1, 0, 0, 0, 0), (17, .iconst 3, 18, 0, 0, 0, 0, 3), (18, .if_icmp .eq 6, 21, 24, 0, 0, 0, 0), (21, .bipush (-9), 23, 0, 0, 0, 0, (-9)), (23, .ireturn, 24, 0, 0, 0, 0, 0), (24, .bipush 20, 26, 0, 0, 0, 0, 20), (26, .istore_n 2, 27, 2, 0, 0, 0, 0), (27, .iload_n 2, 28, 2, 0, 0, 0, 0), (28, .ifCond .lt 19, 31, 47, 0, 0, 0, 0), (31, .aload_n 0, 32, 0, 0, 0, 0, 0)], [(32, .iload_n 2, 33, 2, 0, 0, 0, 0), (33, .invokevirtual 175, 36, 129, 1, 9, 676, 1), (36, .ifCond .eq 5, 39, 41, 0, 0, 0, 0), (39, .iload_n 2, 40, 2, 0, 0, 0, 0), (40, .ireturn, 41, 0, 0, 0, 0, 0), (41, .iinc 2 (-1), 44, 2, 0, 0, 0, (-1)), (44, .goto (-17), 47, 27, 0, 0, 0, 0), (47, .bipush (-9), 49, 0, 0, 0, 0, (-9))], [(49, .ireturn, 50, 0, 0, 0, 0, 0)]])
def hc_X9_grids : hC := (3, [[(0, .iload_n 1, 1, 1, 0, 0, 0, 0), (1, .iconst 0, 2, 0, 0, 0, 0, 0), (2, .iconst 1, 3, 0, 0, 0, 0, 1), (3, .invokestatic 73, 6, 52, 3, 0, 421, 1), (6, .ifCond .ne 5, 9, 11, 0, 0, 0, 0), (9, .iconst (-1), 10, 0, 0, 0, 0, (-1)), (10, .ireturn, 11, 0, 0, 0, 0, 0), (11, .aload_n 0, 12, 0, 0, 0, 0, 0), (12, .getfield 33, 15, 9, 3, 1, 389, 0), (15, .getfield 108, 18, 0, 0, 1, 286, 0)], [(18, .astore_n 2, 19, 2, 0, 0, 0, 0), (19, .aload_n 2, 20, 2, 0, 0, 0, 0), (20, .getfield 124, 23, 8, 9, 0, 226, 0), (23, .iload_n 1, 24, 1, 0, 0, 0, 0), (24, .iconst 1, 25, 0, 0, 0, 0, 1), (25, .if_icmp .ne 7, 28, 32, 0, 0, 0, 0), (28, .iconst 1, 29, 0, 0, 0, 0, 1), (29, .goto 4, 32, 33, 0, 0, 0, 0)], [(32, .iconst 0, 33, 0, 0, 0, 0, 0), (33, .if_icmp .ne 6, 36, 39, 0, 0, 0, 0), (36, .bipush (-2), 38, 0, 0, 0, 0, (-2)), (38, .ireturn, 39, 0, 0, 0, 0, 0), (39, .aload_n 0, 40, 0, 0, 0, 0, 0), (40, .getfield 40, 43, 9, 4, 1, 390, 0), (43, .aload_n 0, 44, 0, 0, 0, 0, 0), (44, .getfield 33, 47, 9, 3, 1, 389, 0), (47, .invokevirtual 117, 50, 120, 1, 1, 520, 0)], [(50, .aload_n 2, 51, 2, 0, 0, 0, 0), (51, .iload_n 1, 52, 1, 0, 0, 0, 0), (52, .iconst 1, 53, 0, 0, 0, 0, 1), (53, .if_icmp .ne 7, 56, 60, 0, 0, 0, 0), (56, .iconst 1, 57, 0, 0, 0, 0, 1), (57, .goto 4, 60, 61, 0, 0, 0, 0), (60, .iconst 0, 61, 0, 0, 0, 0, 0), (61, .putfield 124, 64, 8, 9, 2, 226, 0)], [(64, .aload_n 2, 65, 2, 0, 0, 0, 0), (65, .getfield 128, 68, 8, 0, 0, 210, 0), (68, .ireturn, 69, 0, 0, 0, 0, 0)]])
def hc_X9_gust : hC := (3, [[(0, .iload_n 1, 1, 1, 0, 0, 0, 0), (1, .iconst 1, 2, 0, 0, 0, 0, 1), (2, .bipush 20, 4, 0, 0, 0, 0, 20), (4, .invokestatic 73, 7, 52, 3, 0, 421, 1), (7, .ifCond .ne 5, 10, 12, 0, 0, 0, 0), (10, .iconst (-1), 11, 0, 0, 0, 0, (-1)), (11, .ireturn, 12, 0, 0, 0, 0, 0), (12, .aload_n 0, 13, 0, 0, 0, 0, 0), (13, .getfield 33, 16, 9, 3, 1, 389, 0)], [(16, .getfield 108, 19, 0, 0, 1, 286, 0), (19, .getfield 128, 22, 8, 0, 0, 210, 0), (22, .iconst 5, 23, 0, 0, 0, 0, 5), (23, .if_icmp .ne 6, 26, 29, 0, 0, 0, 0), (26, .bipush (-9), 28, 0, 0, 0, 0, (-9)), (28, .ireturn, 29, 0, 0, 0, 0, 0), (29, .bipush 40, 31, 0, 0, 0, 0, 40), (31, .istore_n 2, 32, 2, 0, 0, 0, 0)], [(32, .iload_n 2, 33, 2, 0, 0, 0, 0), (33, .ifCond .lt 20, 36, 53, 0, 0, 0, 0), (36, .aload_n 0, 37, 0, 0, 0, 0, 0), (37, .iload_n 2, 38, 2, 0, 0, 0, 0), (38, .iload_n 1, 39, 1, 0, 0, 0, 0), (39, .invokevirtual 165, 42, 126, 2, 9, 666, 1), (42, .ifCond .eq 5, 45, 47, 0, 0, 0, 0), (45, .iload_n 2, 46, 2, 0, 0, 0, 0), (46, .ireturn, 47, 0, 0, 0, 0, 0), (47, .iinc 2 (-1), 50, 2, 0, 0, 0, (-1))], [(50, .goto (-18), 53, 32, 0, 0, 0, 0), (53, .bipush (-9), 55, 0, 0, 0, 0, (-9)), (55, .ireturn, 56, 0, 0, 0, 0, 0)]])
def hc_X9_halves : hC := (2, [[(0, .iload_n 1, 1, 1, 0, 0, 0, 0), (1, .iconst 0, 2, 0, 0, 0, 0, 0), (2, .sipush 999, 5, 0, 0, 0, 0, 999), (5, .invokestatic 73, 8, 52, 3, 0, 421, 1), (8, .ifCond .ne 5, 11, 13, 0, 0, 0, 0), (11, .iconst (-1), 12, 0, 0, 0, 0, (-1)), (12, .ireturn, 13, 0, 0, 0, 0, 0), (13, .aload_n 0, 14, 0, 0, 0, 0, 0), (14, .getfield 62, 17, 9, 8, 1, 394, 0)], [(17, .aload_n 0, 18, 0, 0, 0, 0, 0), (18, .getfield 33, 21, 9, 3, 1, 389, 0), (21, .getfield 156, 24, 0, 1, 1, 288, 0), (24, .invokevirtual 179, 27, 123, 1, 2, 684, 0), (27, .aload_n 0, 28, 0, 0, 0, 0, 0), (28, .getfield 62, 31, 9, 8, 1, 394, 0), (31, .iload_n 1, 32, 1, 0, 0, 0, 0)], [(32, .invokevirtual 183, 35, 73, 1, 2, 712, 1), (35, .ireturn, 36, 0, 0, 0, 0, 0)]])
def hc_X9_ices : hC := (4, [[(0, .iload_n 1, 1, 1, 0, 0, 0, 0), (1, .iconst 0, 2, 0, 0, 0, 0, 0), (2, .iconst 5, 3, 0, 0, 0, 0, 5), (3, .invokestatic 73, 6, 52, 3, 0, 421, 1), (6, .ifCond .ne 5, 9, 11, 0, 0, 0, 0), (9, .iconst (-1), 10, 0, 0, 0, 0, (-1)), (10, .ireturn, 11, 0, 0, 0, 0, 0), (11, .aload_n 0, 12, 0, 0, 0, 0, 0), (12, .getfield 33, 15, 9, 3, 1, 389, 0), (15, .getfield 108, 18, 0, 0, 1, 286, 0)], [(18, .astore_n 2, 19, 2, 0, 0, 0, 0), (19, .aload_n 2, 20, 2, 0, 0, 0, 0), (20, .getfield 121, 23, 8, 8, 0, 224, 0), (23, .iload_n 1, 24, 1, 0, 0, 0, 0), (24, .if_icmp .ne 6, 27, 30, 0, 0, 0, 0), (27, .bipush (-2), 29, 0, 0, 0, 0, (-2)), (29, .ireturn, 30, 0, 0, 0, 0, 0), (30, .aload_n 0, 31, 0, 0, 0, 0, 0), (31, .getfield 40, 34, 9, 4, 1, 390, 0)], [(34, .aload_n 0, 35, 0, 0, 0, 0, 0), (35, .getfield 33, 38, 9, 3, 1, 389, 0), (38, .invokevirtual 117, 41, 120, 1, 1, 520, 0), (41, .aload_n 2, 42, 2, 0, 0, 0, 0), (42, .getfield 121, 45, 8, 8, 0, 224, 0), (45, .istore_n 3, 46, 3, 0, 0, 0, 0), (46, .aload_n 2, 47, 2, 0, 0, 0, 0), (47, .iload_n 1, 48, 1, 0, 0, 0, 0)], [(48, .putfield 121, 51, 8, 8, 0, 224, 0), (51, .iload_n 3, 52, 3, 0, 0, 0, 0), (52, .ireturn, 53, 0, 0, 0, 0, 0)]])
def hc_X9_init : hC := (1, [[(0, .aload_n 0, 1, 0, 0, 0, 0, 0), (1, .invokespecial 1, 4, 9998, 0, 0, 111, 0), (4, .aload_n 0, 5, 0, 0, 0, 0, 0), (5, .new 7, 8, 5, 0, 0, 114, 0), (8, .dup, 9, 0, 0, 0, 0, 0), (9, .invokespecial 9, 12, 78, 0, 5, 116, 0), (12, .putfield 10, 15, 9, 0, 1, 386, 0), (15, .aload_n 0, 16, 0, 0, 0, 0, 0)], [(16, .new 16, 19, 6, 0, 0, 151, 0), (19, .dup, 20, 0, 0, 0, 0, 0), (20, .invokespecial 18, 23, 81, 0, 6, 153, 0), (23, .putfield 19, 26, 9, 1, 1, 387, 0), (26, .aload_n 0, 27, 0, 0, 0, 0, 0), (27, .new 23, 30, 3, 0, 0, 167, 0), (30, .dup, 31, 0, 0, 0, 0, 0), (31, .invokespecial 25, 34, 107, 0, 3, 169, 0)], [(34, .putfield 26, 37, 9, 2, 1, 388, 0), (37, .aload_n 0, 38, 0, 0, 0, 0, 0), (38, .new 30, 41, 0, 0, 0, 192, 0), (41, .dup, 42, 0, 0, 0, 0, 0), (42, .invokespecial 32, 45, 98, 0, 0, 194, 0), (45, .putfield 33, 48, 9, 3, 1, 389, 0)], [(48, .aload_n 0, 49, 0, 0, 0, 0, 0), (49, .new 37, 52, 1, 0, 0, 302, 0), (52, .dup, 53, 0, 0, 0, 0, 0), (53, .invokespecial 39, 56, 121, 0, 1, 304, 0), (56, .putfield 40, 59, 9, 4, 1, 390, 0), (59, .aload_n 0, 60, 0, 0, 0, 0, 0), (60, .iconst 2, 61, 0, 0, 0, 0, 2), (61, .anewarray 30, 64, 30000, 0, 0, 192, 0)], [(64, .dup, 65, 0, 0, 0, 0, 0), (65, .iconst 0, 66, 0, 0, 0, 0, 0), (66, .new 30, 69, 0, 0, 0, 192, 0), (69, .dup, 70, 0, 0, 0, 0, 0), (70, .invokespecial 32, 73, 98, 0, 0, 194, 0), (73, .aastore, 74, 0, 0, 0, 0, 0), (74, .dup, 75, 0, 0, 0, 0, 0), (75, .iconst 1, 76, 0, 0, 0, 0, 1), (76, .new 30, 79, 0, 0, 0, 192, 0), (79, .dup, 80, 0, 0, 0, 0, 0)], [(80, .invokespecial 32, 83, 98, 0, 0, 194, 0), (83, .aastore, 84, 0, 0, 0, 0, 0), (84, .putfield 44, 87, 9, 5, 1, 391, 0), (87, .aload_n 0, 88, 0, 0, 0, 0, 0), (88, .iconst 2, 89, 0, 0, 0, 0, 2), (89, .newarray .boolean, 91, 20000, 0, 0, 0, 0), (91, .putfield 48, 94, 9, 6, 1, 392, 0), (94, .aload_n 0, 95, 0, 0, 0, 0, 0), (95, .new 52, 98, 4, 0, 0, 322, 0)], [(98, .dup, 99, 0, 0, 0, 0, 0), (99, .invokespecial 54, 102, 77, 0, 4, 324, 0), (102, .putfield 55, 105, 9, 7, 1, 393, 0), (105, .aload_n 0, 106, 0, 0, 0, 0, 0), (106, .new 59, 109, 2, 0, 0, 350, 0), (109, .dup, 110, 0, 0, 0, 0, 0), (110, .invokespecial 61, 113, 74, 0, 2, 352, 0)], [(113, .putfield 62, 116, 9, 8, 1, 394, 0), (116, .aload_n 0, 117, 0, 0, 0, 0, 0), (117, .new 66, 120, 8, 0, 0, 384, 0), (120, .dup, 121, 0, 0, 0, 0, 0), (121, .invokespecial 68, 124, 89, 0, 8, 385, 0), (124, .putfield 69, 127, 9, 9, 1, 395, 0), (127, .return_, 128, 0, 0, 0, 0, 0)]])
def hc_X9_mostAlike : hC := (5, [[(0, .iconst 0, 1, 0, 0, 0, 0, 0), (1, .istore_n 3, 2, 3, 0, 0, 0, 0), (2, .iconst 0, 3, 0, 0, 0, 0, 0), (3, .istore 4, 5, 4, 0, 0, 0, 0), (5, .iload 4, 7, 4, 0, 0, 0, 0), (7, .iconst 5, 8, 0, 0, 0, 0, 5), (8, .if_icmp .gt 50, 11, 58, 0, 0, 0, 0), (11, .iload_n 1, 12, 1, 0, 0, 0, 0), (12, .iload 4, 14, 4, 0, 0, 0, 0), (14, .ishr, 15, 0, 0, 0, 0, 0), (15, .iconst 1, 16, 0, 0, 0, 0, 1)], [(16, .iand, 17, 0, 0, 0, 0, 0), (17, .iconst 1, 18, 0, 0, 0, 0, 1), (18, .if_icmp .ne 34, 21, 52, 0, 0, 0, 0), (21, .aload_n 0, 22, 0, 0, 0, 0, 0), (22, .getfield 55, 25, 9, 7, 1, 393, 0), (25, .getfield 234, 28, 4, 3, 1, 335, 0), (28, .iload 4, 30, 4, 0, 0, 0, 0), (30, .aload_n 0, 31, 0, 0, 0, 0, 0), (31, .bipush 10, 33, 0, 0, 0, 0, 10)], [(33, .iload_n 2, 34, 2, 0, 0, 0, 0), (34, .iload 4, 36, 4, 0, 0, 0, 0), (36, .invokevirtual 227, 39, 130, 3, 9, 753, 1), (39, .iastore, 40, 0, 0, 0, 0, 0), (40, .iload_n 3, 41, 3, 0, 0, 0, 0), (41, .aload_n 0, 42, 0, 0, 0, 0, 0), (42, .iload_n 1, 43, 1, 0, 0, 0, 0), (43, .iload 4, 45, 4, 0, 0, 0, 0), (45, .invokevirtual 237, 48, 48, 2, 9, 771, 1)], [(48, .invokestatic 240, 51, 4, 2, 0, 775, 1), (51, .istore_n 3, 52, 3, 0, 0, 0, 0), (52, .iinc 4 1, 55, 4, 0, 0, 0, 1), (55, .goto (-50), 58, 5, 0, 0, 0, 0), (58, .iload_n 3, 59, 3, 0, 0, 0, 0), (59, .ireturn, 60, 0, 0, 0, 0, 0)]])
def hc_X9_rain : hC := (2, [[(0, .iload_n 1, 1, 1, 0, 0, 0, 0), (1, .iconst 0, 2, 0, 0, 0, 0, 0), (2, .iconst 4, 3, 0, 0, 0, 0, 4), (3, .invokestatic 73, 6, 52, 3, 0, 421, 1), (6, .ifCond .ne 5, 9, 11, 0, 0, 0, 0), (9, .iconst (-1), 10, 0, 0, 0, 0, (-1)), (10, .ireturn, 11, 0, 0, 0, 0, 0), (11, .aload_n 0, 12, 0, 0, 0, 0, 0), (12, .getfield 62, 15, 9, 8, 1, 394, 0), (15, .aload_n 0, 16, 0, 0, 0, 0, 0)], [(16, .getfield 33, 19, 9, 3, 1, 389, 0), (19, .getfield 156, 22, 0, 1, 1, 288, 0), (22, .invokevirtual 179, 25, 123, 1, 2, 684, 0), (25, .iload_n 1, 26, 1, 0, 0, 0, 0), (26, .tableswitch 62 0 3 #[30, 38, 46, 54], 56, 0, 0, 0, 0, 0)], [], [(56, .aload_n 0, 57, 0, 0, 0, 0, 0), (57, .getfield 62, 60, 9, 8, 1, 394, 0), (60, .getfield 186, 63, 2, 6, 0, 364, 0), (63, .ireturn, 64, 0, 0, 0, 0, 0)], [(64, .aload_n 0, 65, 0, 0, 0, 0, 0), (65, .getfield 62, 68, 9, 8, 1, 394, 0), (68, .invokevirtual 189, 71, 72, 0, 2, 720, 1), (71, .ireturn, 72, 0, 0, 0, 0, 0), (72, .aload_n 0, 73, 0, 0, 0, 0, 0), (73, .getfield 62, 76, 9, 8, 1, 394, 0), (76, .invokevirtual 193, 79, 27, 0, 2, 725, 1), (79, .ireturn, 80, 0, 0, 0, 0, 0)], [(80, .aload_n 0, 81, 0, 0, 0, 0, 0), (81, .getfield 62, 84, 9, 8, 1, 394, 0), (84, .getfield 196, 87, 2, 7, 0, 366, 0), (87, .ireturn, 88, 0, 0, 0, 0, 0), (88, .aload_n 0, 89, 0, 0, 0, 0, 0), (89, .getfield 62, 92, 9, 8, 1, 394, 0), (92, .getfield 199, 95, 2, 1, 0, 358, 0), (95, .ireturn, 96, 0, 0, 0, 0, 0)]])
def hc_X9_resets : hC := (2, [[(0, .aload_n 0, 1, 0, 0, 0, 0, 0), (1, .getfield 33, 4, 9, 3, 1, 389, 0), (4, .getfield 108, 7, 0, 0, 1, 286, 0), (7, .astore_n 1, 8, 1, 0, 0, 0, 0), (8, .aload_n 1, 9, 1, 0, 0, 0, 0), (9, .getfield 128, 12, 8, 0, 0, 210, 0), (12, .iconst 5, 13, 0, 0, 0, 0, 5), (13, .if_icmp .ne 10, 16, 23, 0, 0, 0, 0)], [(16, .aload_n 1, 17, 1, 0, 0, 0, 0), (17, .getfield 134, 20, 8, 1, 0, 213, 0), (20, .ifCond .eq 6, 23, 26, 0, 0, 0, 0), (23, .bipush (-2), 25, 0, 0, 0, 0, (-2)), (25, .ireturn, 26, 0, 0, 0, 0, 0), (26, .aload_n 0, 27, 0, 0, 0, 0, 0), (27, .getfield 40, 30, 9, 4, 1, 390, 0), (30, .aload_n 0, 31, 0, 0, 0, 0, 0), (31, .getfield 33, 34, 9, 3, 1, 389, 0)], [(34, .invokevirtual 117, 37, 120, 1, 1, 520, 0), (37, .aload_n 1, 38, 1, 0, 0, 0, 0), (38, .iconst 0, 39, 0, 0, 0, 0, 0), (39, .putfield 128, 42, 8, 0, 0, 210, 0), (42, .aload_n 1, 43, 1, 0, 0, 0, 0), (43, .getfield 137, 46, 8, 6, 0, 221, 0), (46, .ireturn, 47, 0, 0, 0, 0, 0)]])
def hc_X9_ticks : hC := (3, [[(0, .iload_n 1, 1, 1, 0, 0, 0, 0), (1, .iconst 1, 2, 0, 0, 0, 0, 1), (2, .bipush 60, 4, 0, 0, 0, 0, 60), (4, .invokestatic 73, 7, 52, 3, 0, 421, 1), (7, .ifCond .ne 5, 10, 12, 0, 0, 0, 0), (10, .iconst (-1), 11, 0, 0, 0, 0, (-1)), (11, .ireturn, 12, 0, 0, 0, 0, 0), (12, .aload_n 0, 13, 0, 0, 0, 0, 0), (13, .getfield 33, 16, 9, 3, 1, 389, 0)], [(16, .getfield 140, 19, 0, 2, 0, 290, 0), (19, .iload_n 1, 20, 1, 0, 0, 0, 0), (20, .iadd, 21, 0, 0, 0, 0, 0), (21, .sipush 9999, 24, 0, 0, 0, 0, 9999), (24, .if_icmp .le 6, 27, 30, 0, 0, 0, 0), (27, .bipush (-3), 29, 0, 0, 0, 0, (-3)), (29, .ireturn, 30, 0, 0, 0, 0, 0), (30, .aload_n 0, 31, 0, 0, 0, 0, 0), (31, .getfield 40, 34, 9, 4, 1, 390, 0)], [(34, .aload_n 0, 35, 0, 0, 0, 0, 0), (35, .getfield 33, 38, 9, 3, 1, 389, 0), (38, .invokevirtual 117, 41, 120, 1, 1, 520, 0), (41, .iconst 0, 42, 0, 0, 0, 0, 0), (42, .istore_n 2, 43, 2, 0, 0, 0, 0), (43, .iload_n 2, 44, 2, 0, 0, 0, 0), (44, .iload_n 1, 45, 1, 0, 0, 0, 0), (45, .if_icmp .ge 20, 48, 65, 0, 0, 0, 0)], [(48, .aload_n 0, 49, 0, 0, 0, 0, 0), (49, .getfield 33, 52, 9, 3, 1, 389, 0), (52, .aload_n 0, 53, 0, 0, 0, 0, 0), (53, .getfield 10, 56, 9, 0, 1, 386, 0), (56, .invokevirtual 143, 59, 114, 1, 0, 565, 0), (59, .iinc 2 1, 62, 2, 0, 0, 0, 1), (62, .goto (-19), 65, 43, 0, 0, 0, 0)], [(65, .aload_n 0, 66, 0, 0, 0, 0, 0), (66, .getfield 33, 69, 9, 3, 1, 389, 0), (69, .getfield 108, 72, 0, 0, 1, 286, 0), (72, .getfield 134, 75, 8, 1, 0, 213, 0), (75, .ireturn, 76, 0, 0, 0, 0, 0)]])
def hc_X9_undo : hC := (1, [[(0, .aload_n 0, 1, 0, 0, 0, 0, 0), (1, .getfield 40, 4, 9, 4, 1, 390, 0), (4, .getfield 146, 7, 1, 2, 0, 314, 0), (7, .ifCond .ne 6, 10, 13, 0, 0, 0, 0), (10, .bipush (-2), 12, 0, 0, 0, 0, (-2)), (12, .ireturn, 13, 0, 0, 0, 0, 0), (13, .aload_n 0, 14, 0, 0, 0, 0, 0), (14, .getfield 40, 17, 9, 4, 1, 390, 0)], [(17, .aload_n 0, 18, 0, 0, 0, 0, 0), (18, .getfield 33, 21, 9, 3, 1, 389, 0), (21, .invokevirtual 147, 24, 122, 1, 1, 632, 0), (24, .aload_n 0, 25, 0, 0, 0, 0, 0), (25, .getfield 40, 28, 9, 4, 1, 390, 0), (28, .getfield 146, 31, 1, 2, 0, 314, 0), (31, .ireturn, 32, 0, 0, 0, 0, 0)]])
def hc_X9_wants : hC := (3, [[(0, .iload_n 1, 1, 1, 0, 0, 0, 0), (1, .iconst 0, 2, 0, 0, 0, 0, 0), (2, .iconst 1, 3, 0, 0, 0, 0, 1), (3, .invokestatic 73, 6, 52, 3, 0, 421, 1), (6, .ifCond .ne 5, 9, 11, 0, 0, 0, 0), (9, .iconst (-1), 10, 0, 0, 0, 0, (-1)), (10, .ireturn, 11, 0, 0, 0, 0, 0), (11, .aload_n 0, 12, 0, 0, 0, 0, 0), (12, .getfield 33, 15, 9, 3, 1, 389, 0), (15, .getfield 108, 18, 0, 0, 1, 286, 0)], [(18, .astore_n 2, 19, 2, 0, 0, 0, 0), (19, .aload_n 2, 20, 2, 0, 0, 0, 0), (20, .getfield 131, 23, 8, 10, 0, 228, 0), (23, .iload_n 1, 24, 1, 0, 0, 0, 0), (24, .iconst 1, 25, 0, 0, 0, 0, 1), (25, .if_icmp .ne 7, 28, 32, 0, 0, 0, 0), (28, .iconst 1, 29, 0, 0, 0, 0, 1), (29, .goto 4, 32, 33, 0, 0, 0, 0)], [(32, .iconst 0, 33, 0, 0, 0, 0, 0), (33, .if_icmp .ne 6, 36, 39, 0, 0, 0, 0), (36, .bipush (-2), 38, 0, 0, 0, 0, (-2)), (38, .ireturn, 39, 0, 0, 0, 0, 0), (39, .aload_n 0, 40, 0, 0, 0, 0, 0), (40, .getfield 40, 43, 9, 4, 1, 390, 0), (43, .aload_n 0, 44, 0, 0, 0, 0, 0), (44, .getfield 33, 47, 9, 3, 1, 389, 0), (47, .invokevirtual 117, 50, 120, 1, 1, 520, 0)], [(50, .aload_n 2, 51, 2, 0, 0, 0, 0), (51, .iload_n 1, 52, 1, 0, 0, 0, 0), (52, .iconst 1, 53, 0, 0, 0, 0, 1), (53, .if_icmp .ne 7, 56, 60, 0, 0, 0, 0), (56, .iconst 1, 57, 0, 0, 0, 0, 1), (57, .goto 4, 60, 61, 0, 0, 0, 0), (60, .iconst 0, 61, 0, 0, 0, 0, 0), (61, .putfield 131, 64, 8, 10, 2, 228, 0)], [(64, .aload_n 2, 65, 2, 0, 0, 0, 0), (65, .getfield 128, 68, 8, 0, 0, 210, 0), (68, .ireturn, 69, 0, 0, 0, 0, 0)]])
def hc_X10_bears : hC := (5, [[(0, .aload_n 0, 1, 0, 0, 0, 0, 0), (1, .invokevirtual 171, 4, 21, 0, 10, 1034, 0), (4, .aload_n 0, 5, 0, 0, 0, 0, 0), (5, .getfield 13, 8, 10, 1, 1, 804, 0), (8, .iconst 0, 9, 0, 0, 0, 0, 0), (9, .iaload, 10, 0, 0, 0, 0, 0), (10, .iconst 5, 11, 0, 0, 0, 0, 5), (11, .if_icmp .eq 7, 14, 18, 0, 0, 0, 0), (14, .iconst 1, 15, 0, 0, 0, 0, 1), (15, .goto 4, 18, 19, 0, 0, 0, 0)], [(18, .iconst 0, 19, 0, 0, 0, 0, 0), (19, .istore_n 3, 20, 3, 0, 0, 0, 0), (20, .iconst 0, 21, 0, 0, 0, 0, 0), (21, .istore 4, 23, 4, 0, 0, 0, 0), (23, .iload 4, 25, 4, 0, 0, 0, 0), (25, .bipush 60, 27, 0, 0, 0, 0, 60), (27, .if_icmp .ge 59, 30, 86, 0, 0, 0, 0), (30, .iload_n 3, 31, 3, 0, 0, 0, 0), (31, .ifCond .eq 55, 34, 86, 0, 0, 0, 0)], [(34, .aload_n 0, 35, 0, 0, 0, 0, 0), (35, .getfield 13, 38, 10, 1, 1, 804, 0), (38, .iconst 4, 39, 0, 0, 0, 0, 4), (39, .iload 4, 41, 4, 0, 0, 0, 0), (41, .iload_n 1, 42, 1, 0, 0, 0, 0), (42, .if_icmp .ge 7, 45, 49, 0, 0, 0, 0), (45, .iload_n 2, 46, 2, 0, 0, 0, 0), (46, .goto 9, 49, 55, 0, 0, 0, 0)], [(49, .aload_n 0, 50, 0, 0, 0, 0, 0), (50, .getfield 7, 53, 10, 0, 1, 803, 0), (53, .iconst 4, 54, 0, 0, 0, 0, 4), (54, .iaload, 55, 0, 0, 0, 0, 0), (55, .iastore, 56, 0, 0, 0, 0, 0), (56, .aload_n 0, 57, 0, 0, 0, 0, 0), (57, .aload_n 0, 58, 0, 0, 0, 0, 0), (58, .getfield 13, 61, 10, 1, 1, 804, 0), (61, .invokevirtual 164, 64, 131, 1, 10, 959, 0)], [(64, .aload_n 0, 65, 0, 0, 0, 0, 0), (65, .getfield 13, 68, 10, 1, 1, 804, 0), (68, .iconst 0, 69, 0, 0, 0, 0, 0), (69, .iaload, 70, 0, 0, 0, 0, 0), (70, .iconst 5, 71, 0, 0, 0, 0, 5), (71, .if_icmp .eq 7, 74, 78, 0, 0, 0, 0), (74, .iconst 1, 75, 0, 0, 0, 0, 1), (75, .goto 4, 78, 79, 0, 0, 0, 0), (78, .iconst 0, 79, 0, 0, 0, 0, 0), (79, .istore_n 3, 80, 3, 0, 0, 0, 0)], [(80, .iinc 4 1, 83, 4, 0, 0, 0, 1), (83, .goto (-60), 86, 23, 0, 0, 0, 0), (86, .iload_n 3, 87, 3, 0, 0, 0, 0), (87, .ireturn, 88, 0, 0, 2, 0, 0)]])
def hc_X10_rides : hC := (4, [[(0, .aload_n 0, 1, 0, 0, 0, 0, 0), (1, .invokevirtual 171, 4, 21, 0, 10, 1034, 0), (4, .iconst 1, 5, 0, 0, 0, 0, 1), (5, .istore_n 2, 6, 2, 0, 0, 0, 0), (6, .iconst 0, 7, 0, 0, 0, 0, 0), (7, .istore_n 3, 8, 3, 0, 0, 0, 0), (8, .iload_n 3, 9, 3, 0, 0, 0, 0), (9, .bipush 60, 11, 0, 0, 0, 0, 60), (11, .if_icmp .ge 54, 14, 65, 0, 0, 0, 0), (14, .iload_n 2, 15, 2, 0, 0, 0, 0), (15, .ifCond .eq 50, 18, 65, 0, 0, 0, 0)], [(18, .aload_n 0, 19, 0, 0, 0, 0, 0), (19, .getfield 13, 22, 10, 1, 1, 804, 0), (22, .bipush 9, 24, 0, 0, 0, 0, 9), (24, .iload_n 3, 25, 3, 0, 0, 0, 0), (25, .iload_n 1, 26, 1, 0, 0, 0, 0), (26, .if_icmp .ge 7, 29, 33, 0, 0, 0, 0), (29, .iconst 0, 30, 0, 0, 0, 0, 0), (30, .goto 4, 33, 34, 0, 0, 0, 0)], [(33, .iconst 1, 34, 0, 0, 0, 0, 1), (34, .iastore, 35, 0, 0, 0, 0, 0), (35, .aload_n 0, 36, 0, 0, 0, 0, 0), (36, .aload_n 0, 37, 0, 0, 0, 0, 0), (37, .getfield 13, 40, 10, 1, 1, 804, 0), (40, .invokevirtual 164, 43, 131, 1, 10, 959, 0), (43, .aload_n 0, 44, 0, 0, 0, 0, 0), (44, .getfield 13, 47, 10, 1, 1, 804, 0), (47, .iconst 0, 48, 0, 0, 0, 0, 0)], [(48, .iaload, 49, 0, 0, 0, 0, 0), (49, .iconst 4, 50, 0, 0, 0, 0, 4), (50, .if_icmp .ge 7, 53, 57, 0, 0, 0, 0), (53, .iconst 1, 54, 0, 0, 0, 0, 1), (54, .goto 4, 57, 58, 0, 0, 0, 0), (57, .iconst 0, 58, 0, 0, 0, 0, 0), (58, .istore_n 2, 59, 2, 0, 0, 0, 0), (59, .iinc 3 1, 62, 3, 0, 0, 0, 1), (62, .goto (-54), 65, 8, 0, 0, 0, 0)], [(65, .iload_n 2, 66, 2, 0, 0, 0, 0), (66, .ireturn, 67, 0, 0, 2, 0, 0)]])
def hc_X10_speedBy : hC := (5, [[(0, .aload_n 0, 1, 0, 0, 0, 0, 0), (1, .invokevirtual 171, 4, 21, 0, 10, 1034, 0), (4, .aload_n 0, 5, 0, 0, 0, 0, 0), (5, .getfield 13, 8, 10, 1, 1, 804, 0), (8, .bipush 8, 10, 0, 0, 0, 0, 8), (10, .iload_n 1, 11, 1, 0, 0, 0, 0), (11, .iastore, 12, 0, 0, 0, 0, 0), (12, .aload_n 0, 13, 0, 0, 0, 0, 0), (13, .getfield 13, 16, 10, 1, 1, 804, 0)], [(16, .iconst 4, 17, 0, 0, 0, 0, 4), (17, .iload_n 3, 18, 3, 0, 0, 0, 0), (18, .iastore, 19, 0, 0, 0, 0, 0), (19, .iconst 0, 20, 0, 0, 0, 0, 0), (20, .istore 4, 22, 4, 0, 0, 0, 0), (22, .iload 4, 24, 4, 0, 0, 0, 0), (24, .iload_n 2, 25, 2, 0, 0, 0, 0), (25, .if_icmp .ge 17, 28, 42, 0, 0, 0, 0), (28, .aload_n 0, 29, 0, 0, 0, 0, 0), (29, .aload_n 0, 30, 0, 0, 0, 0, 0), (30, .getfield 13, 33, 10, 1, 1, 804, 0)], [(33, .invokevirtual 164, 36, 131, 1, 10, 959, 0), (36, .iinc 4 1, 39, 4, 0, 0, 0, 1), (39, .goto (-17), 42, 22, 0, 0, 0, 0), (42, .aload_n 0, 43, 0, 0, 0, 0, 0), (43, .getfield 13, 46, 10, 1, 1, 804, 0), (46, .iconst 1, 47, 0, 0, 0, 0, 1), (47, .iaload, 48, 0, 0, 0, 0, 0)], [(48, .ireturn, 49, 0, 0, 0, 0, 0)]])
def hc_X10_tells : hC := (2, [[(0, .aload_n 0, 1, 0, 0, 0, 0, 0), (1, .invokevirtual 53, 4, 17, 0, 10, 795, 0), (4, .aload_n 0, 5, 0, 0, 0, 0, 0), (5, .iconst 0, 6, 0, 0, 0, 0, 0), (6, .putfield 67, 9, 10, 9, 0, 812, 0), (9, .aload_n 0, 10, 0, 0, 0, 0, 0), (10, .bipush (-9), 12, 0, 0, 0, 0, (-9)), (12, .putfield 87, 15, 10, 13, 0, 816, 0), (15, .iconst 0, 16, 0, 0, 0, 0, 0)], [(16, .istore_n 1, 17, 1, 0, 0, 0, 0), (17, .aload_n 0, 18, 0, 0, 0, 0, 0), (18, .invokevirtual 90, 21, 103, 0, 10, 897, 0), (21, .aload_n 0, 22, 0, 0, 0, 0, 0), (22, .getfield 87, 25, 10, 13, 0, 816, 0), (25, .bipush (-9), 27, 0, 0, 0, 0, (-9)), (27, .if_icmp .ne 21, 30, 48, 0, 0, 0, 0), (30, .aload_n 0, 31, 0, 0, 0, 0, 0), (31, .getfield 73, 34, 10, 11, 0, 814, 0)], [(34, .iconst 2, 35, 0, 0, 0, 0, 2), (35, .if_icmp .eq 13, 38, 48, 0, 0, 0, 0), (38, .aload_n 0, 39, 0, 0, 0, 0, 0), (39, .invokevirtual 110, 42, 133, 0, 10, 908, 0), (42, .iinc 1 1, 45, 1, 0, 0, 0, 1), (45, .goto (-24), 48, 21, 0, 0, 0, 0)], [(48, .aload_n 0, 49, 0, 0, 0, 0, 0), (49, .getfield 87, 52, 10, 13, 0, 816, 0), (52, .bipush (-9), 54, 0, 0, 0, 0, (-9)), (54, .if_icmp .eq 11, 57, 65, 0, 0, 0, 0), (57, .bipush (-10), 59, 0, 0, 0, 0, (-10)), (59, .aload_n 0, 60, 0, 0, 0, 0, 0), (60, .getfield 87, 63, 10, 13, 0, 816, 0), (63, .isub, 64, 0, 0, 0, 0, 0)], [(64, .ireturn, 65, 0, 0, 0, 0, 0), (65, .aload_n 0, 66, 0, 0, 0, 0, 0), (66, .invokevirtual 56, 69, 19, 0, 10, 799, 0), (69, .aload_n 0, 70, 0, 0, 0, 0, 0), (70, .iconst 0, 71, 0, 0, 0, 0, 0), (71, .putfield 113, 74, 10, 3, 0, 806, 0), (74, .aload_n 0, 75, 0, 0, 0, 0, 0), (75, .getfield 22, 78, 10, 5, 1, 808, 0), (78, .iconst 0, 79, 0, 0, 0, 0, 0), (79, .iconst 0, 80, 0, 0, 0, 0, 0)], [(80, .bastore, 81, 0, 0, 0, 0, 0), (81, .aload_n 0, 82, 0, 0, 0, 0, 0), (82, .getfield 22, 85, 10, 5, 1, 808, 0), (85, .iconst 1, 86, 0, 0, 0, 0, 1), (86, .iconst 0, 87, 0, 0, 0, 0, 0), (87, .bastore, 88, 0, 0, 0, 0, 0), (88, .aload_n 0, 89, 0, 0, 0, 0, 0), (89, .iconst 0, 90, 0, 0, 0, 0, 0), (90, .putfield 116, 93, 10, 24, 0, 827, 0), (93, .aload_n 0, 94, 0, 0, 0, 0, 0), (94, .iconst 0, 95, 0, 0, 0, 0, 0), (95, .putfield 63, 98, 10, 8, 0, 811, 0)], [(98, .iload_n 1, 99, 1, 0, 0, 0, 0), (99, .ireturn, 100, 0, 0, 0, 0, 0)]])
def hc_X10_ticks : hC := (3, [[(0, .iload_n 1, 1, 1, 0, 0, 0, 0), (1, .iconst 1, 2, 0, 0, 0, 0, 1), (2, .bipush 60, 4, 0, 0, 0, 0, 60), (4, .invokestatic 59, 7, 10, 3, 0, 886, 1), (7, .ifCond .ne 5, 10, 12, 0, 0, 0, 0), (10, .iconst (-1), 11, 0, 0, 0, 0, (-1)), (11, .ireturn, 12, 0, 0, 0, 0, 0), (12, .aload_n 0, 13, 0, 0, 0, 0, 0), (13, .getfield 7, 16, 10, 0, 1, 803, 0)], [(16, .bipush 16, 18, 0, 0, 0, 0, 16), (18, .iaload, 19, 0, 0, 0, 0, 0), (19, .iload_n 1, 20, 1, 0, 0, 0, 0), (20, .iadd, 21, 0, 0, 0, 0, 0), (21, .sipush 9999, 24, 0, 0, 0, 0, 9999), (24, .if_icmp .le 6, 27, 30, 0, 0, 0, 0), (27, .bipush (-3), 29, 0, 0, 0, 0, (-3)), (29, .ireturn, 30, 0, 0, 0, 0, 0), (30, .aload_n 0, 31, 0, 0, 0, 0, 0), (31, .invokevirtual 158, 34, 14, 0, 10, 931, 0)], [(34, .iconst 0, 35, 0, 0, 0, 0, 0), (35, .istore_n 2, 36, 2, 0, 0, 0, 0), (36, .iload_n 2, 37, 2, 0, 0, 0, 0), (37, .iload_n 1, 38, 1, 0, 0, 0, 0), (38, .if_icmp .ge 21, 41, 59, 0, 0, 0, 0), (41, .aload_n 0, 42, 0, 0, 0, 0, 0), (42, .aload_n 0, 43, 0, 0, 0, 0, 0), (43, .getfield 7, 46, 10, 0, 1, 803, 0), (46, .invokevirtual 164, 49, 131, 1, 10, 959, 0)], [(49, .aload_n 0, 50, 0, 0, 0, 0, 0), (50, .invokevirtual 167, 53, 15, 0, 10, 1005, 0), (53, .iinc 2 1, 56, 2, 0, 0, 0, 1), (56, .goto (-20), 59, 36, 0, 0, 0, 0), (59, .aload_n 0, 60, 0, 0, 0, 0, 0), (60, .getfield 7, 63, 10, 0, 1, 803, 0), (63, .iconst 1, 64, 0, 0, 0, 0, 1)], [(64, .iaload, 65, 0, 0, 0, 0, 0), (65, .ireturn, 66, 0, 0, 0, 0, 0)]])
def hc_X9_possibleIce : hC := (3, [[(0, .iconst 0, 1, 0, 0, 0, 0, 0), (1, .istore_n 1, 2, 1, 0, 0, 0, 0), (2, .iconst 0, 3, 0, 0, 0, 0, 0), (3, .istore_n 2, 4, 2, 0, 0, 0, 0), (4, .iload_n 2, 5, 2, 0, 0, 0, 0), (5, .iconst 5, 6, 0, 0, 0, 0, 5), (6, .if_icmp .gt 23, 9, 29, 0, 0, 0, 0), (9, .aload_n 0, 10, 0, 0, 0, 0, 0), (10, .iload_n 2, 11, 2, 0, 0, 0, 0), (11, .invokevirtual 217, 14, 135, 1, 9, 749, 1), (14, .ifCond .eq 9, 17, 23, 0, 0, 0, 0)], [(17, .iload_n 1, 18, 1, 0, 0, 0, 0), (18, .iconst 1, 19, 0, 0, 0, 0, 1), (19, .iload_n 2, 20, 2, 0, 0, 0, 0), (20, .ishl, 21, 0, 0, 0, 0, 0), (21, .ior, 22, 0, 0, 0, 0, 0), (22, .istore_n 1, 23, 1, 0, 0, 0, 0), (23, .iinc 2 1, 26, 2, 0, 0, 0, 1), (26, .goto (-22), 29, 4, 0, 0, 0, 0), (29, .iload_n 1, 30, 1, 0, 0, 0, 0), (30, .ireturn, 31, 0, 0, 0, 0, 0)]])
def hc_X9_tells : hC := (2, [[(0, .aload_n 0, 1, 0, 0, 0, 0, 0), (1, .getfield 26, 4, 9, 2, 1, 388, 0), (4, .aload_n 0, 5, 0, 0, 0, 0, 0), (5, .getfield 19, 8, 9, 1, 1, 387, 0), (8, .invokevirtual 85, 11, 134, 1, 3, 436, 1), (11, .istore_n 1, 12, 1, 0, 0, 0, 0), (12, .iload_n 1, 13, 1, 0, 0, 0, 0), (13, .ifCond .ge 5, 16, 18, 0, 0, 0, 0)], [(16, .iload_n 1, 17, 1, 0, 0, 0, 0), (17, .ireturn, 18, 0, 0, 0, 0, 0), (18, .aload_n 0, 19, 0, 0, 0, 0, 0), (19, .getfield 10, 22, 9, 0, 1, 386, 0), (22, .aload_n 0, 23, 0, 0, 0, 0, 0), (23, .getfield 26, 26, 9, 2, 1, 388, 0), (26, .getfield 89, 29, 3, 0, 1, 176, 0), (29, .invokevirtual 92, 32, 34, 1, 5, 495, 0)], [(32, .aload_n 0, 33, 0, 0, 0, 0, 0), (33, .getfield 19, 36, 9, 1, 1, 387, 0), (36, .iconst 0, 37, 0, 0, 0, 0, 0), (37, .putfield 77, 40, 6, 1, 0, 159, 0), (40, .aload_n 0, 41, 0, 0, 0, 0, 0), (41, .getfield 33, 44, 9, 3, 1, 389, 0), (44, .invokevirtual 96, 47, 54, 0, 0, 499, 0), (47, .aload_n 0, 48, 0, 0, 0, 0, 0)], [(48, .getfield 40, 51, 9, 4, 1, 390, 0), (51, .invokevirtual 99, 54, 26, 0, 1, 508, 0), (54, .aload_n 0, 55, 0, 0, 0, 0, 0), (55, .invokevirtual 102, 58, 53, 0, 9, 512, 0), (58, .aload_n 0, 59, 0, 0, 0, 0, 0), (59, .getfield 55, 62, 9, 7, 1, 393, 0), (62, .iconst 0, 63, 0, 0, 0, 0, 0), (63, .putfield 105, 66, 4, 4, 0, 337, 0)], [(66, .iload_n 1, 67, 1, 0, 0, 0, 0), (67, .ireturn, 68, 0, 0, 0, 0, 0)]])
def hc_X10_dip : hC := (3, [[(0, .aload_n 0, 1, 0, 0, 0, 0, 0), (1, .getfield 7, 4, 10, 0, 1, 803, 0), (4, .iconst 0, 5, 0, 0, 0, 0, 0), (5, .iaload, 6, 0, 0, 0, 0, 0), (6, .iconst 2, 7, 0, 0, 0, 0, 2), (7, .iconst 3, 8, 0, 0, 0, 0, 3), (8, .invokestatic 59, 11, 10, 3, 0, 886, 1), (11, .ifCond .ne 6, 14, 17, 0, 0, 0, 0), (14, .bipush (-9), 16, 0, 0, 0, 0, (-9))], [(16, .ireturn, 17, 0, 0, 0, 0, 0), (17, .bipush (-9), 19, 0, 0, 0, 0, (-9)), (19, .istore_n 1, 20, 1, 0, 0, 0, 0), (20, .iconst 0, 21, 0, 0, 0, 0, 0), (21, .istore_n 2, 22, 2, 0, 0, 0, 0), (22, .iload_n 2, 23, 2, 0, 0, 0, 0), (23, .bipush 20, 25, 0, 0, 0, 0, 20), (25, .if_icmp .gt 23, 28, 48, 0, 0, 0, 0), (28, .aload_n 0, 29, 0, 0, 0, 0, 0), (29, .iload_n 2, 30, 2, 0, 0, 0, 0), (30, .invokevirtual 178, 33, 150, 1, 10, 1042, 1)], [(33, .ifCond .eq 7, 36, 40, 0, 0, 0, 0), (36, .iload_n 2, 37, 2, 0, 0, 0, 0), (37, .goto 4, 40, 41, 0, 0, 0, 0), (40, .iload_n 1, 41, 1, 0, 0, 0, 0), (41, .istore_n 1, 42, 1, 0, 0, 0, 0), (42, .iinc 2 1, 45, 2, 0, 0, 0, 1), (45, .goto (-23), 48, 22, 0, 0, 0, 0)], [(48, .iload_n 1, 49, 1, 0, 0, 0, 0), (49, .ireturn, 50, 0, 0, 0, 0, 0)]])
def hc_X10_gust : hC := (4, [[(0, .iload_n 1, 1, 1, 0, 0, 0, 0), (1, .iconst 1, 2, 0, 0, 0, 0, 1), (2, .bipush 20, 4, 0, 0, 0, 0, 20), (4, .invokestatic 59, 7, 10, 3, 0, 886, 1), (7, .ifCond .ne 5, 10, 12, 0, 0, 0, 0), (10, .iconst (-1), 11, 0, 0, 0, 0, (-1)), (11, .ireturn, 12, 0, 0, 0, 0, 0), (12, .bipush (-9), 14, 0, 0, 0, 0, (-9)), (14, .istore_n 2, 15, 2, 0, 0, 0, 0), (15, .iconst 0, 16, 0, 0, 0, 0, 0)], [(16, .istore_n 3, 17, 3, 0, 0, 0, 0), (17, .iload_n 3, 18, 3, 0, 0, 0, 0), (18, .bipush 40, 20, 0, 0, 0, 0, 40), (20, .if_icmp .gt 24, 23, 44, 0, 0, 0, 0), (23, .aload_n 0, 24, 0, 0, 0, 0, 0), (24, .iload_n 1, 25, 1, 0, 0, 0, 0), (25, .iload_n 3, 26, 3, 0, 0, 0, 0), (26, .invokevirtual 174, 29, 149, 2, 10, 1030, 1), (29, .ifCond .eq 7, 32, 36, 0, 0, 0, 0)], [(32, .iload_n 3, 33, 3, 0, 0, 0, 0), (33, .goto 4, 36, 37, 0, 0, 0, 0), (36, .iload_n 2, 37, 2, 0, 0, 0, 0), (37, .istore_n 2, 38, 2, 0, 0, 0, 0), (38, .iinc 3 1, 41, 3, 0, 0, 0, 1), (41, .goto (-24), 44, 17, 0, 0, 0, 0), (44, .iload_n 2, 45, 2, 0, 0, 0, 0), (45, .ireturn, 46, 0, 0, 0, 0, 0)]])
def hc_X10_isSo : hC := (4, [[(0, .iconst 1, 1, 0, 0, 0, 0, 1), (1, .istore_n 2, 2, 2, 0, 0, 0, 0), (2, .iconst 0, 3, 0, 0, 0, 0, 0), (3, .istore_n 3, 4, 3, 0, 0, 0, 0), (4, .iload_n 3, 5, 3, 0, 0, 0, 0), (5, .aload_n 0, 6, 0, 0, 0, 0, 0), (6, .getfield 116, 9, 10, 24, 0, 827, 0), (9, .if_icmp .ge 55, 12, 64, 0, 0, 0, 0), (12, .iload_n 2, 13, 2, 0, 0, 0, 0), (13, .ifCond .eq 51, 16, 64, 0, 0, 0, 0)], [(16, .aload_n 0, 17, 0, 0, 0, 0, 0), (17, .iload_n 1, 18, 1, 0, 0, 0, 0), (18, .aload_n 0, 19, 0, 0, 0, 0, 0), (19, .getfield 47, 22, 10, 23, 1, 826, 0), (22, .iconst 3, 23, 0, 0, 0, 0, 3), (23, .iload_n 3, 24, 3, 0, 0, 0, 0), (24, .imul, 25, 0, 0, 0, 0, 0), (25, .iaload, 26, 0, 0, 0, 0, 0), (26, .aload_n 0, 27, 0, 0, 0, 0, 0), (27, .getfield 47, 30, 10, 23, 1, 826, 0), (30, .iconst 3, 31, 0, 0, 0, 0, 3), (31, .iload_n 3, 32, 3, 0, 0, 0, 0)], [(32, .imul, 33, 0, 0, 0, 0, 0), (33, .iconst 1, 34, 0, 0, 0, 0, 1), (34, .iadd, 35, 0, 0, 0, 0, 0), (35, .iaload, 36, 0, 0, 0, 0, 0), (36, .invokevirtual 206, 39, 151, 3, 10, 1090, 1), (39, .aload_n 0, 40, 0, 0, 0, 0, 0), (40, .getfield 47, 43, 10, 23, 1, 826, 0), (43, .iconst 3, 44, 0, 0, 0, 0, 3), (44, .iload_n 3, 45, 3, 0, 0, 0, 0), (45, .imul, 46, 0, 0, 0, 0, 0), (46, .iconst 2, 47, 0, 0, 0, 0, 2), (47, .iadd, 48, 0, 0, 0, 0, 0)], [(48, .iaload, 49, 0, 0, 0, 0, 0), (49, .if_icmp .ne 7, 52, 56, 0, 0, 0, 0), (52, .iconst 1, 53, 0, 0, 0, 0, 1), (53, .goto 4, 56, 57, 0, 0, 0, 0), (56, .iconst 0, 57, 0, 0, 0, 0, 0), (57, .istore_n 2, 58, 2, 0, 0, 0, 0), (58, .iinc 3 1, 61, 3, 0, 0, 0, 1), (61, .goto (-57), 64, 4, 0, 0, 0, 0)], [(64, .iload_n 2, 65, 2, 0, 0, 0, 0), (65, .ireturn, 66, 0, 0, 2, 0, 0)]])
def hc_X10_mostAlike : hC := (7, [[(0, .iconst 0, 1, 0, 0, 0, 0, 0), (1, .istore_n 3, 2, 3, 0, 0, 0, 0), (2, .iload_n 3, 3, 3, 0, 0, 0, 0), (3, .bipush 6, 5, 0, 0, 0, 0, 6), (5, .if_icmp .ge 37, 8, 42, 0, 0, 0, 0), (8, .aload_n 0, 9, 0, 0, 0, 0, 0), (9, .getfield 50, 12, 10, 25, 1, 828, 0), (12, .iload_n 3, 13, 3, 0, 0, 0, 0), (13, .iload_n 1, 14, 1, 0, 0, 0, 0), (14, .iload_n 3, 15, 3, 0, 0, 0, 0), (15, .ishr, 16, 0, 0, 0, 0, 0)], [(16, .iconst 1, 17, 0, 0, 0, 0, 1), (17, .iand, 18, 0, 0, 0, 0, 0), (18, .iconst 1, 19, 0, 0, 0, 0, 1), (19, .if_icmp .ne 14, 22, 33, 0, 0, 0, 0), (22, .aload_n 0, 23, 0, 0, 0, 0, 0), (23, .iload_n 3, 24, 3, 0, 0, 0, 0), (24, .bipush 10, 26, 0, 0, 0, 0, 10), (26, .iload_n 2, 27, 2, 0, 0, 0, 0), (27, .invokevirtual 206, 30, 151, 3, 10, 1090, 1), (30, .goto 5, 33, 35, 0, 0, 0, 0)], [(33, .bipush (-9), 35, 0, 0, 0, 0, (-9)), (35, .iastore, 36, 0, 0, 0, 0, 0), (36, .iinc 3 1, 39, 3, 0, 0, 0, 1), (39, .goto (-37), 42, 2, 0, 0, 0, 0), (42, .iconst 0, 43, 0, 0, 0, 0, 0), (43, .istore_n 3, 44, 3, 0, 0, 0, 0), (44, .iconst 0, 45, 0, 0, 0, 0, 0), (45, .istore 4, 47, 4, 0, 0, 0, 0), (47, .iload 4, 49, 4, 0, 0, 0, 0)], [(49, .bipush 6, 51, 0, 0, 0, 0, 6), (51, .if_icmp .ge 80, 54, 131, 0, 0, 0, 0), (54, .iconst 0, 55, 0, 0, 0, 0, 0), (55, .istore 5, 57, 5, 0, 0, 0, 0), (57, .iconst 0, 58, 0, 0, 0, 0, 0), (58, .istore 6, 60, 6, 0, 0, 0, 0), (60, .iload 6, 62, 6, 0, 0, 0, 0), (62, .bipush 6, 64, 0, 0, 0, 0, 6)], [(64, .if_icmp .ge 48, 67, 112, 0, 0, 0, 0), (67, .iload 5, 69, 5, 0, 0, 0, 0), (69, .aload_n 0, 70, 0, 0, 0, 0, 0), (70, .getfield 50, 73, 10, 25, 1, 828, 0), (73, .iload 4, 75, 4, 0, 0, 0, 0), (75, .iaload, 76, 0, 0, 0, 0, 0), (76, .bipush (-9), 78, 0, 0, 0, 0, (-9)), (78, .if_icmp .eq 24, 81, 102, 0, 0, 0, 0)], [(81, .aload_n 0, 82, 0, 0, 0, 0, 0), (82, .getfield 50, 85, 10, 25, 1, 828, 0), (85, .iload 4, 87, 4, 0, 0, 0, 0), (87, .iaload, 88, 0, 0, 0, 0, 0), (88, .aload_n 0, 89, 0, 0, 0, 0, 0), (89, .getfield 50, 92, 10, 25, 1, 828, 0), (92, .iload 6, 94, 6, 0, 0, 0, 0), (94, .iaload, 95, 0, 0, 0, 0, 0), (95, .if_icmp .ne 7, 98, 102, 0, 0, 0, 0)], [(98, .iconst 1, 99, 0, 0, 0, 0, 1), (99, .goto 4, 102, 103, 0, 0, 0, 0), (102, .iconst 0, 103, 0, 0, 0, 0, 0), (103, .iadd, 104, 0, 0, 0, 0, 0), (104, .istore 5, 106, 5, 0, 0, 0, 0), (106, .iinc 6 1, 109, 6, 0, 0, 0, 1), (109, .goto (-49), 112, 60, 0, 0, 0, 0)], [(112, .iload 5, 114, 5, 0, 0, 0, 0), (114, .iload_n 3, 115, 3, 0, 0, 0, 0), (115, .if_icmp .le 8, 118, 123, 0, 0, 0, 0), (118, .iload 5, 120, 5, 0, 0, 0, 0), (120, .goto 4, 123, 124, 0, 0, 0, 0), (123, .iload_n 3, 124, 3, 0, 0, 0, 0), (124, .istore_n 3, 125, 3, 0, 0, 0, 0), (125, .iinc 4 1, 128, 4, 0, 0, 0, 1)], [(128, .goto (-81), 131, 47, 0, 0, 0, 0), (131, .iload_n 3, 132, 3, 0, 0, 0, 0), (132, .ireturn, 133, 0, 0, 0, 0, 0)]])
def hc_X9_ask : hC := (6, [[(0, .aload_n 0, 1, 0, 0, 0, 0, 0), (1, .invokevirtual 205, 4, 154, 0, 9, 745, 1), (4, .istore_n 1, 5, 1, 0, 0, 0, 0), (5, .iload_n 1, 6, 1, 0, 0, 0, 0), (6, .invokestatic 208, 9, 0, 1, 0, 761, 1), (9, .iconst 1, 10, 0, 0, 0, 0, 1), (10, .if_icmp .gt 6, 13, 16, 0, 0, 0, 0), (13, .bipush (-9), 15, 0, 0, 0, 0, (-9)), (15, .ireturn, 16, 0, 0, 0, 0, 0)], [(16, .bipush (-9), 18, 0, 0, 0, 0, (-9)), (18, .istore_n 2, 19, 2, 0, 0, 0, 0), (19, .bipush 7, 21, 0, 0, 0, 0, 7), (21, .istore_n 3, 22, 3, 0, 0, 0, 0), (22, .iconst 0, 23, 0, 0, 0, 0, 0), (23, .istore 4, 25, 4, 0, 0, 0, 0), (25, .iload 4, 27, 4, 0, 0, 0, 0), (27, .bipush 40, 29, 0, 0, 0, 0, 40), (29, .if_icmp .gt 30, 32, 59, 0, 0, 0, 0)], [(32, .aload_n 0, 33, 0, 0, 0, 0, 0), (33, .iload_n 1, 34, 1, 0, 0, 0, 0), (34, .iload 4, 36, 4, 0, 0, 0, 0), (36, .invokevirtual 213, 39, 143, 2, 9, 767, 1), (39, .istore 5, 41, 5, 0, 0, 0, 0), (41, .iload 5, 43, 5, 0, 0, 0, 0), (43, .iload_n 3, 44, 3, 0, 0, 0, 0), (44, .if_icmp .ge 9, 47, 53, 0, 0, 0, 0), (47, .iload 5, 49, 5, 0, 0, 0, 0)], [(49, .istore_n 3, 50, 3, 0, 0, 0, 0), (50, .iload 4, 52, 4, 0, 0, 0, 0), (52, .istore_n 2, 53, 2, 0, 0, 0, 0), (53, .iinc 4 1, 56, 4, 0, 0, 0, 1), (56, .goto (-31), 59, 25, 0, 0, 0, 0), (59, .iload_n 2, 60, 2, 0, 0, 0, 0), (60, .ireturn, 61, 0, 0, 0, 0, 0)]])
def hc_X9_which : hC := (1, [[(0, .aload_n 0, 1, 0, 0, 0, 0, 0), (1, .invokevirtual 205, 4, 154, 0, 9, 745, 1), (4, .ireturn, 5, 0, 0, 0, 0, 0)]])
def hc_X10_which : hC := (3, [[(0, .iconst 0, 1, 0, 0, 0, 0, 0), (1, .istore_n 1, 2, 1, 0, 0, 0, 0), (2, .iconst 0, 3, 0, 0, 0, 0, 0), (3, .istore_n 2, 4, 2, 0, 0, 0, 0), (4, .iload_n 2, 5, 2, 0, 0, 0, 0), (5, .bipush 6, 7, 0, 0, 0, 0, 6), (7, .if_icmp .ge 27, 10, 34, 0, 0, 0, 0), (10, .iload_n 1, 11, 1, 0, 0, 0, 0), (11, .aload_n 0, 12, 0, 0, 0, 0, 0), (12, .iload_n 2, 13, 2, 0, 0, 0, 0), (13, .invokevirtual 209, 16, 158, 1, 10, 1086, 1)], [(16, .ifCond .eq 9, 19, 25, 0, 0, 0, 0), (19, .iconst 1, 20, 0, 0, 0, 0, 1), (20, .iload_n 2, 21, 2, 0, 0, 0, 0), (21, .ishl, 22, 0, 0, 0, 0, 0), (22, .goto 4, 25, 26, 0, 0, 0, 0), (25, .iconst 0, 26, 0, 0, 0, 0, 0), (26, .ior, 27, 0, 0, 0, 0, 0), (27, .istore_n 1, 28, 1, 0, 0, 0, 0), (28, .iinc 2 1, 31, 2, 0, 0, 0, 1), (31, .goto (-27), 34, 4, 0, 0, 0, 0)], [(34, .iload_n 1, 35, 1, 0, 0, 0, 0), (35, .ireturn, 36, 0, 0, 0, 0, 0)]])
def hc_X10_ask : hC := (7, [[(0, .aload_n 0, 1, 0, 0, 0, 0, 0), (1, .invokevirtual 212, 4, 162, 0, 10, 1098, 1), (4, .istore_n 1, 5, 1, 0, 0, 0, 0), (5, .iconst 0, 6, 0, 0, 0, 0, 0), (6, .istore_n 2, 7, 2, 0, 0, 0, 0), (7, .iconst 0, 8, 0, 0, 0, 0, 0), (8, .istore_n 3, 9, 3, 0, 0, 0, 0), (9, .iload_n 3, 10, 3, 0, 0, 0, 0), (10, .bipush 6, 12, 0, 0, 0, 0, 6), (12, .if_icmp .ge 17, 15, 29, 0, 0, 0, 0), (15, .iload_n 2, 16, 2, 0, 0, 0, 0)], [(16, .iload_n 1, 17, 1, 0, 0, 0, 0), (17, .iload_n 3, 18, 3, 0, 0, 0, 0), (18, .ishr, 19, 0, 0, 0, 0, 0), (19, .iconst 1, 20, 0, 0, 0, 0, 1), (20, .iand, 21, 0, 0, 0, 0, 0), (21, .iadd, 22, 0, 0, 0, 0, 0), (22, .istore_n 2, 23, 2, 0, 0, 0, 0), (23, .iinc 3 1, 26, 3, 0, 0, 0, 1), (26, .goto (-17), 29, 9, 0, 0, 0, 0), (29, .bipush (-9), 31, 0, 0, 0, 0, (-9)), (31, .istore_n 3, 32, 3, 0, 0, 0, 0)], [(32, .bipush 7, 34, 0, 0, 0, 0, 7), (34, .istore 4, 36, 4, 0, 0, 0, 0), (36, .iconst 0, 37, 0, 0, 0, 0, 0), (37, .istore 5, 39, 5, 0, 0, 0, 0), (39, .iload 5, 41, 5, 0, 0, 0, 0), (41, .bipush 40, 43, 0, 0, 0, 0, 40), (43, .if_icmp .gt 53, 46, 96, 0, 0, 0, 0), (46, .iload_n 2, 47, 2, 0, 0, 0, 0), (47, .iconst 1, 48, 0, 0, 0, 0, 1)], [(48, .if_icmp .le 48, 51, 96, 0, 0, 0, 0), (51, .aload_n 0, 52, 0, 0, 0, 0, 0), (52, .iload_n 1, 53, 1, 0, 0, 0, 0), (53, .iload 5, 55, 5, 0, 0, 0, 0), (55, .invokevirtual 215, 58, 159, 2, 10, 1099, 1), (58, .istore 6, 60, 6, 0, 0, 0, 0), (60, .iload 6, 62, 6, 0, 0, 0, 0), (62, .iload 4, 64, 4, 0, 0, 0, 0)], [(64, .if_icmp .ge 8, 67, 72, 0, 0, 0, 0), (67, .iload 5, 69, 5, 0, 0, 0, 0), (69, .goto 4, 72, 73, 0, 0, 0, 0), (72, .iload_n 3, 73, 3, 0, 0, 0, 0), (73, .istore_n 3, 74, 3, 0, 0, 0, 0), (74, .iload 6, 76, 6, 0, 0, 0, 0), (76, .iload 4, 78, 4, 0, 0, 0, 0), (78, .if_icmp .ge 8, 81, 86, 0, 0, 0, 0)], [(81, .iload 6, 83, 6, 0, 0, 0, 0), (83, .goto 5, 86, 88, 0, 0, 0, 0), (86, .iload 4, 88, 4, 0, 0, 0, 0), (88, .istore 4, 90, 4, 0, 0, 0, 0), (90, .iinc 5 1, 93, 5, 0, 0, 0, 1), (93, .goto (-54), 96, 39, 0, 0, 0, 0)], [(96, .iload_n 3, 97, 3, 0, 0, 0, 0), (97, .ireturn, 98, 0, 0, 0, 0, 0)]])
def hCod : List hC := [hc_J6_bitCount_0f7a4, hc_J9_abs_0f7a4, hc_J9_floorDiv_7cf53, hc_J9_floorMod_7cf53, hc_J9_max_7cf53, hc_J9_min_7cf53, hc_X10_away, hc_X10_clear, hc_X10_count, hc_X10_forget, hc_X10_in, hc_X10_isToldAlready, hc_X10_leastOf, hc_X10_mostOf, hc_X10_notes, hc_X10_notesSpeed, hc_X10_pitchGoal, hc_X10_plain, hc_X10_record, hc_X10_takesOver, hc_X10_towards, hc_X10_tries, hc_X10_turns, hc_X10_undo, hc_X10_unlikeOnes, hc_X10_whichOf, hc_X1_lose, hc_X2_allHalves, hc_X2_findTurn, hc_X2_placeOf, hc_X3_isTold, hc_X3_settingOf, hc_X3_takesEnd, hc_X4_add, hc_X5_become, hc_X5_put, hc_X5_startAnew, hc_X5_tell, hc_X6_append, hc_X6_letterAt, hc_X7_startAnew, hc_X8_ahead, hc_X8_become, hc_X8_drag, hc_X8_isWound, hc_X8_startAnew, hc_X8_torqueAim, hc_X8_turnBy, hc_X9_alikeUpTo, hc_X9_clear, hc_X9_count, hc_X9_forget, hc_X9_isWithin, hc_X9_loseImages, hc_X0_startAnew, hc_X10_back, hc_X10_becomes, hc_X10_blows, hc_X10_closes, hc_X10_counts, hc_X10_errorOf, hc_X10_findsTurns, hc_X10_ices, hc_X10_init, hc_X10_isFigure, hc_X10_isWound, hc_X10_keep, hc_X10_resets, hc_X10_sees, hc_X10_setting, hc_X10_type, hc_X2_addHalves, hc_X2_greatestDifference, hc_X2_halvesOf, hc_X2_init, hc_X2_isCycleInside, hc_X3_takesLetter, hc_X4_init, hc_X5_init, hc_X5_mayBe, hc_X6_behindBlanks, hc_X6_init, hc_X6_isFigureAt, hc_X7_add, hc_X7_become, hc_X7_init, hc_X7_speedAgo, hc_X8_drive, hc_X8_error, hc_X8_init, hc_X8_nearer, hc_X8_nextMode, hc_X8_pitchAim, hc_X8_turn, hc_X9_sees, hc_X9_setting, hc_X9_type, hc_X0_become, hc_X0_init, hc_X10_driveOf, hc_X10_grids, hc_X10_looksUp, hc_X10_modeOf, hc_X10_next, hc_X10_rains, hc_X10_wants, hc_X2_addToRow, hc_X3_init, hc_X3_takesNumber, hc_X6_behindToken, hc_X6_numberAt, hc_X8_step, hc_X8_tell, hc_X9_record, hc_X0_tick, hc_X10_halvesOf, hc_X10_holds, hc_X10_must, hc_X10_now, hc_X10_rain, hc_X1_add, hc_X1_init, hc_X1_takeLatest, hc_X2_pour, hc_X3_takes, hc_X9_back, hc_X9_bearsGust, hc_X9_keep, hc_X9_now, hc_X9_ridesDip, hc_X9_speedAfter, hc_X10_goesOn, hc_X10_halves, hc_X10_readsItem, hc_X3_read, hc_X9_agreesWithSeen, hc_X9_blows, hc_X9_dip, hc_X9_grids, hc_X9_gust, hc_X9_halves, hc_X9_ices, hc_X9_init, hc_X9_mostAlike, hc_X9_rain, hc_X9_resets, hc_X9_ticks, hc_X9_undo, hc_X9_wants, hc_X10_bears, hc_X10_rides, hc_X10_speedBy, hc_X10_tells, hc_X10_ticks, hc_X9_possibleIce, hc_X9_tells, hc_X10_dip, hc_X10_gust, hc_X10_isSo, hc_X10_mostAlike, hc_X9_ask, hc_X9_which, hc_X10_which, hc_X10_ask]
def hcod (y : Nat) : hC := hCod.getD y (0, [])
end
section
/-! The machine's run, and the rows by which a run is shown. -/
def hRun : Nat → hC → Nat → List (Option hV) → List hV → hS → Option (Option Int32 × hS)
  | 0, _, _, _, _, _ => none
  | n + 1, C, pc, L, st, S => match hFetch C pc with
    | none => none
    | some e => match hAct e L st S with
      | none => none
      | some (.inl (pc', L', st', S')) => hRun n C pc' L' st' S'
      | some (.inr (.inl (y, as, nx, r, vf))) => match hRun n (hcod y) 0 (hInit (hcod y).1 as) [] S with
        | none => none
        | some (some x, S1) => if vf = true then hRun n C nx L (.inl x :: r) S1 else none
        | some (none, S1) => if vf = true then none else hRun n C nx L r S1
      | some (.inr (.inr o)) => some (o, S)
theorem hRun_succ : ∀ (n : Nat) (C : hC) (pc : Nat) (L : List (Option hV)) (st : List hV) (S : hS) (o : Option Int32 × hS), hRun n C pc L st S = some o → hRun (n + 1) C pc L st S = some o := by
  intro n
  induction n with
  | zero => intro C pc L st S o h; cases h
  | succ n ih =>
    intro C pc L st S o h
    rw [hRun] at h ⊢
    cases hf : hFetch C pc with
    | none => rw [hf] at h; cases h
    | some e =>
      rw [hf] at h
      dsimp only at h ⊢
      cases ha : hAct e L st S with
      | none => rw [ha] at h; cases h
      | some A =>
        rw [ha] at h
        rcases A with ⟨pc', L', st', S'⟩ | ⟨y, as, nx, r, vf⟩ | o'
        · exact ih _ _ _ _ _ _ h
        · dsimp only at h ⊢
          cases hc : hRun n (hcod y) 0 (hInit (hcod y).1 as) [] S with
          | none => rw [hc] at h; cases h
          | some q =>
            rw [hc] at h
            rw [ih _ _ _ _ _ _ hc]
            rcases q with ⟨_ | x, S1⟩
            · dsimp only at h ⊢
              cases vf
              · exact ih _ _ _ _ _ _ h
              · exact h
            · dsimp only at h ⊢
              cases vf
              · exact h
              · exact ih _ _ _ _ _ _ h
        · exact h
theorem hRun_mono {n m : Nat} (hnm : n ≤ m) {C : hC} {pc : Nat} {L : List (Option hV)} {st : List hV} {S : hS} {o : Option Int32 × hS} (h : hRun n C pc L st S = some o) : hRun m C pc L st S = some o := by
  induction hnm with
  | refl => exact h
  | step _ ih => exact hRun_succ _ _ _ _ _ _ _ ih
def Rn (C : hC) (pc : Nat) (L : List (Option hV)) (st : List hV) (S : hS) (o : Option Int32 × hS) : Prop := ∃ n, hRun n C pc L st S = some o
def Ev (y : Nat) (as : List hV) (S : hS) (o : Option Int32 × hS) : Prop := Rn (hcod y) 0 (hInit (hcod y).1 as) [] S o
theorem r_step {C : hC} {pc : Nat} {L : List (Option hV)} {st : List hV} {S : hS} {o : Option Int32 × hS} {e : hE} {pc' : Nat} {L' : List (Option hV)} {st' : List hV} {S' : hS} (hf : hFetch C pc = some e) (ha : hAct e L st S = some (.inl (pc', L', st', S'))) (k : Rn C pc' L' st' S' o) : Rn C pc L st S o := by
  obtain ⟨n, h⟩ := k
  exact ⟨n + 1, by rw [hRun, hf]; dsimp only; rw [ha]; exact h⟩
theorem r_ret {C : hC} {pc : Nat} {L : List (Option hV)} {st : List hV} {S : hS} {e : hE} {o : Option Int32} (hf : hFetch C pc = some e) (ha : hAct e L st S = some (.inr (.inr o))) : Rn C pc L st S (o, S) := ⟨1, by rw [hRun, hf]; dsimp only; rw [ha]⟩
theorem r_call {C : hC} {pc : Nat} {L : List (Option hV)} {st : List hV} {S : hS} {o : Option Int32 × hS} {e : hE} {y : Nat} {as : List hV} {nx : Nat} {r : List hV} {x : Int32} {S1 : hS} (hf : hFetch C pc = some e) (ha : hAct e L st S = some (.inr (.inl (y, as, nx, r, true)))) (hE : Ev y as S (some x, S1)) (k : Rn C nx L (.inl x :: r) S1 o) : Rn C pc L st S o := by
  obtain ⟨n, h⟩ := k
  obtain ⟨m, g⟩ := hE
  refine ⟨max n m + 1, ?_⟩
  rw [hRun, hf]; dsimp only; rw [ha]; dsimp only
  rw [hRun_mono (Nat.le_max_right n m) g]; dsimp only
  rw [if_pos rfl]
  exact hRun_mono (Nat.le_max_left n m) h
theorem r_callv {C : hC} {pc : Nat} {L : List (Option hV)} {st : List hV} {S : hS} {o : Option Int32 × hS} {e : hE} {y : Nat} {as : List hV} {nx : Nat} {r : List hV} {S1 : hS} (hf : hFetch C pc = some e) (ha : hAct e L st S = some (.inr (.inl (y, as, nx, r, false)))) (hE : Ev y as S (none, S1)) (k : Rn C nx L r S1 o) : Rn C pc L st S o := by
  obtain ⟨n, h⟩ := k
  obtain ⟨m, g⟩ := hE
  refine ⟨max n m + 1, ?_⟩
  rw [hRun, hf]; dsimp only; rw [ha]; dsimp only
  rw [hRun_mono (Nat.le_max_right n m) g]; dsimp only
  rw [if_neg (by decide)]
  exact hRun_mono (Nat.le_max_left n m) h
theorem r_if {C : hC} {c : Prop} {i : Decidable c} {p q : Nat} {L : List (Option hV)} {st : List hV} {S : hS} {o : Option Int32 × hS} (kt : c → Rn C p L st S o) (kf : ¬ c → Rn C q L st S o) : Rn C (if c then p else q) L st S o := by
  by_cases h : c
  · rw [if_pos h]; exact kt h
  · rw [if_neg h]; exact kf h
theorem r_eq {C : hC} {pc : Nat} {L : List (Option hV)} {st : List hV} {S : hS} {o o' : Option Int32 × hS} (h : o = o') (k : Rn C pc L st S o) : Rn C pc L st S o' := h ▸ k
theorem hcod_J6_bitCount_0f7a4 : hcod 0 = hc_J6_bitCount_0f7a4 := rfl
theorem hcod_J9_abs_0f7a4 : hcod 1 = hc_J9_abs_0f7a4 := rfl
theorem hcod_J9_floorDiv_7cf53 : hcod 2 = hc_J9_floorDiv_7cf53 := rfl
theorem hcod_J9_floorMod_7cf53 : hcod 3 = hc_J9_floorMod_7cf53 := rfl
theorem hcod_J9_max_7cf53 : hcod 4 = hc_J9_max_7cf53 := rfl
theorem hcod_J9_min_7cf53 : hcod 5 = hc_J9_min_7cf53 := rfl
theorem hcod_X10_away : hcod 6 = hc_X10_away := rfl
theorem hcod_X10_clear : hcod 7 = hc_X10_clear := rfl
theorem hcod_X10_count : hcod 8 = hc_X10_count := rfl
theorem hcod_X10_forget : hcod 9 = hc_X10_forget := rfl
theorem hcod_X10_in : hcod 10 = hc_X10_in := rfl
theorem hcod_X10_isToldAlready : hcod 11 = hc_X10_isToldAlready := rfl
theorem hcod_X10_leastOf : hcod 12 = hc_X10_leastOf := rfl
theorem hcod_X10_mostOf : hcod 13 = hc_X10_mostOf := rfl
theorem hcod_X10_notes : hcod 14 = hc_X10_notes := rfl
theorem hcod_X10_notesSpeed : hcod 15 = hc_X10_notesSpeed := rfl
theorem hcod_X10_pitchGoal : hcod 16 = hc_X10_pitchGoal := rfl
theorem hcod_X10_plain : hcod 17 = hc_X10_plain := rfl
theorem hcod_X10_record : hcod 18 = hc_X10_record := rfl
theorem hcod_X10_takesOver : hcod 19 = hc_X10_takesOver := rfl
theorem hcod_X10_towards : hcod 20 = hc_X10_towards := rfl
theorem hcod_X10_tries : hcod 21 = hc_X10_tries := rfl
theorem hcod_X10_turns : hcod 22 = hc_X10_turns := rfl
theorem hcod_X10_undo : hcod 23 = hc_X10_undo := rfl
theorem hcod_X10_unlikeOnes : hcod 24 = hc_X10_unlikeOnes := rfl
theorem hcod_X10_whichOf : hcod 25 = hc_X10_whichOf := rfl
theorem hcod_X1_lose : hcod 26 = hc_X1_lose := rfl
theorem hcod_X2_allHalves : hcod 27 = hc_X2_allHalves := rfl
theorem hcod_X2_findTurn : hcod 28 = hc_X2_findTurn := rfl
theorem hcod_X2_placeOf : hcod 29 = hc_X2_placeOf := rfl
theorem hcod_X3_isTold : hcod 30 = hc_X3_isTold := rfl
theorem hcod_X3_settingOf : hcod 31 = hc_X3_settingOf := rfl
theorem hcod_X3_takesEnd : hcod 32 = hc_X3_takesEnd := rfl
theorem hcod_X4_add : hcod 33 = hc_X4_add := rfl
theorem hcod_X5_become : hcod 34 = hc_X5_become := rfl
theorem hcod_X5_put : hcod 35 = hc_X5_put := rfl
theorem hcod_X5_startAnew : hcod 36 = hc_X5_startAnew := rfl
theorem hcod_X5_tell : hcod 37 = hc_X5_tell := rfl
theorem hcod_X6_append : hcod 38 = hc_X6_append := rfl
theorem hcod_X6_letterAt : hcod 39 = hc_X6_letterAt := rfl
theorem hcod_X7_startAnew : hcod 40 = hc_X7_startAnew := rfl
theorem hcod_X8_ahead : hcod 41 = hc_X8_ahead := rfl
theorem hcod_X8_become : hcod 42 = hc_X8_become := rfl
theorem hcod_X8_drag : hcod 43 = hc_X8_drag := rfl
theorem hcod_X8_isWound : hcod 44 = hc_X8_isWound := rfl
theorem hcod_X8_startAnew : hcod 45 = hc_X8_startAnew := rfl
theorem hcod_X8_torqueAim : hcod 46 = hc_X8_torqueAim := rfl
theorem hcod_X8_turnBy : hcod 47 = hc_X8_turnBy := rfl
theorem hcod_X9_alikeUpTo : hcod 48 = hc_X9_alikeUpTo := rfl
theorem hcod_X9_clear : hcod 49 = hc_X9_clear := rfl
theorem hcod_X9_count : hcod 50 = hc_X9_count := rfl
theorem hcod_X9_forget : hcod 51 = hc_X9_forget := rfl
theorem hcod_X9_isWithin : hcod 52 = hc_X9_isWithin := rfl
theorem hcod_X9_loseImages : hcod 53 = hc_X9_loseImages := rfl
theorem hcod_X0_startAnew : hcod 54 = hc_X0_startAnew := rfl
theorem hcod_X10_back : hcod 55 = hc_X10_back := rfl
theorem hcod_X10_becomes : hcod 56 = hc_X10_becomes := rfl
theorem hcod_X10_blows : hcod 57 = hc_X10_blows := rfl
theorem hcod_X10_closes : hcod 58 = hc_X10_closes := rfl
theorem hcod_X10_counts : hcod 59 = hc_X10_counts := rfl
theorem hcod_X10_errorOf : hcod 60 = hc_X10_errorOf := rfl
theorem hcod_X10_findsTurns : hcod 61 = hc_X10_findsTurns := rfl
theorem hcod_X10_ices : hcod 62 = hc_X10_ices := rfl
theorem hcod_X10_init : hcod 63 = hc_X10_init := rfl
theorem hcod_X10_isFigure : hcod 64 = hc_X10_isFigure := rfl
theorem hcod_X10_isWound : hcod 65 = hc_X10_isWound := rfl
theorem hcod_X10_keep : hcod 66 = hc_X10_keep := rfl
theorem hcod_X10_resets : hcod 67 = hc_X10_resets := rfl
theorem hcod_X10_sees : hcod 68 = hc_X10_sees := rfl
theorem hcod_X10_setting : hcod 69 = hc_X10_setting := rfl
theorem hcod_X10_type : hcod 70 = hc_X10_type := rfl
theorem hcod_X2_addHalves : hcod 71 = hc_X2_addHalves := rfl
theorem hcod_X2_greatestDifference : hcod 72 = hc_X2_greatestDifference := rfl
theorem hcod_X2_halvesOf : hcod 73 = hc_X2_halvesOf := rfl
theorem hcod_X2_init : hcod 74 = hc_X2_init := rfl
theorem hcod_X2_isCycleInside : hcod 75 = hc_X2_isCycleInside := rfl
theorem hcod_X3_takesLetter : hcod 76 = hc_X3_takesLetter := rfl
theorem hcod_X4_init : hcod 77 = hc_X4_init := rfl
theorem hcod_X5_init : hcod 78 = hc_X5_init := rfl
theorem hcod_X5_mayBe : hcod 79 = hc_X5_mayBe := rfl
theorem hcod_X6_behindBlanks : hcod 80 = hc_X6_behindBlanks := rfl
theorem hcod_X6_init : hcod 81 = hc_X6_init := rfl
theorem hcod_X6_isFigureAt : hcod 82 = hc_X6_isFigureAt := rfl
theorem hcod_X7_add : hcod 83 = hc_X7_add := rfl
theorem hcod_X7_become : hcod 84 = hc_X7_become := rfl
theorem hcod_X7_init : hcod 85 = hc_X7_init := rfl
theorem hcod_X7_speedAgo : hcod 86 = hc_X7_speedAgo := rfl
theorem hcod_X8_drive : hcod 87 = hc_X8_drive := rfl
theorem hcod_X8_error : hcod 88 = hc_X8_error := rfl
theorem hcod_X8_init : hcod 89 = hc_X8_init := rfl
theorem hcod_X8_nearer : hcod 90 = hc_X8_nearer := rfl
theorem hcod_X8_nextMode : hcod 91 = hc_X8_nextMode := rfl
theorem hcod_X8_pitchAim : hcod 92 = hc_X8_pitchAim := rfl
theorem hcod_X8_turn : hcod 93 = hc_X8_turn := rfl
theorem hcod_X9_sees : hcod 94 = hc_X9_sees := rfl
theorem hcod_X9_setting : hcod 95 = hc_X9_setting := rfl
theorem hcod_X9_type : hcod 96 = hc_X9_type := rfl
theorem hcod_X0_become : hcod 97 = hc_X0_become := rfl
theorem hcod_X0_init : hcod 98 = hc_X0_init := rfl
theorem hcod_X10_driveOf : hcod 99 = hc_X10_driveOf := rfl
theorem hcod_X10_grids : hcod 100 = hc_X10_grids := rfl
theorem hcod_X10_looksUp : hcod 101 = hc_X10_looksUp := rfl
theorem hcod_X10_modeOf : hcod 102 = hc_X10_modeOf := rfl
theorem hcod_X10_next : hcod 103 = hc_X10_next := rfl
theorem hcod_X10_rains : hcod 104 = hc_X10_rains := rfl
theorem hcod_X10_wants : hcod 105 = hc_X10_wants := rfl
theorem hcod_X2_addToRow : hcod 106 = hc_X2_addToRow := rfl
theorem hcod_X3_init : hcod 107 = hc_X3_init := rfl
theorem hcod_X3_takesNumber : hcod 108 = hc_X3_takesNumber := rfl
theorem hcod_X6_behindToken : hcod 109 = hc_X6_behindToken := rfl
theorem hcod_X6_numberAt : hcod 110 = hc_X6_numberAt := rfl
theorem hcod_X8_step : hcod 111 = hc_X8_step := rfl
theorem hcod_X8_tell : hcod 112 = hc_X8_tell := rfl
theorem hcod_X9_record : hcod 113 = hc_X9_record := rfl
theorem hcod_X0_tick : hcod 114 = hc_X0_tick := rfl
theorem hcod_X10_halvesOf : hcod 115 = hc_X10_halvesOf := rfl
theorem hcod_X10_holds : hcod 116 = hc_X10_holds := rfl
theorem hcod_X10_must : hcod 117 = hc_X10_must := rfl
theorem hcod_X10_now : hcod 118 = hc_X10_now := rfl
theorem hcod_X10_rain : hcod 119 = hc_X10_rain := rfl
theorem hcod_X1_add : hcod 120 = hc_X1_add := rfl
theorem hcod_X1_init : hcod 121 = hc_X1_init := rfl
theorem hcod_X1_takeLatest : hcod 122 = hc_X1_takeLatest := rfl
theorem hcod_X2_pour : hcod 123 = hc_X2_pour := rfl
theorem hcod_X3_takes : hcod 124 = hc_X3_takes := rfl
theorem hcod_X9_back : hcod 125 = hc_X9_back := rfl
theorem hcod_X9_bearsGust : hcod 126 = hc_X9_bearsGust := rfl
theorem hcod_X9_keep : hcod 127 = hc_X9_keep := rfl
theorem hcod_X9_now : hcod 128 = hc_X9_now := rfl
theorem hcod_X9_ridesDip : hcod 129 = hc_X9_ridesDip := rfl
theorem hcod_X9_speedAfter : hcod 130 = hc_X9_speedAfter := rfl
theorem hcod_X10_goesOn : hcod 131 = hc_X10_goesOn := rfl
theorem hcod_X10_halves : hcod 132 = hc_X10_halves := rfl
theorem hcod_X10_readsItem : hcod 133 = hc_X10_readsItem := rfl
theorem hcod_X3_read : hcod 134 = hc_X3_read := rfl
theorem hcod_X9_agreesWithSeen : hcod 135 = hc_X9_agreesWithSeen := rfl
theorem hcod_X9_blows : hcod 136 = hc_X9_blows := rfl
theorem hcod_X9_dip : hcod 137 = hc_X9_dip := rfl
theorem hcod_X9_grids : hcod 138 = hc_X9_grids := rfl
theorem hcod_X9_gust : hcod 139 = hc_X9_gust := rfl
theorem hcod_X9_halves : hcod 140 = hc_X9_halves := rfl
theorem hcod_X9_ices : hcod 141 = hc_X9_ices := rfl
theorem hcod_X9_init : hcod 142 = hc_X9_init := rfl
theorem hcod_X9_mostAlike : hcod 143 = hc_X9_mostAlike := rfl
theorem hcod_X9_rain : hcod 144 = hc_X9_rain := rfl
theorem hcod_X9_resets : hcod 145 = hc_X9_resets := rfl
theorem hcod_X9_ticks : hcod 146 = hc_X9_ticks := rfl
theorem hcod_X9_undo : hcod 147 = hc_X9_undo := rfl
theorem hcod_X9_wants : hcod 148 = hc_X9_wants := rfl
theorem hcod_X10_bears : hcod 149 = hc_X10_bears := rfl
theorem hcod_X10_rides : hcod 150 = hc_X10_rides := rfl
theorem hcod_X10_speedBy : hcod 151 = hc_X10_speedBy := rfl
theorem hcod_X10_tells : hcod 152 = hc_X10_tells := rfl
theorem hcod_X10_ticks : hcod 153 = hc_X10_ticks := rfl
theorem hcod_X9_possibleIce : hcod 154 = hc_X9_possibleIce := rfl
theorem hcod_X9_tells : hcod 155 = hc_X9_tells := rfl
theorem hcod_X10_dip : hcod 156 = hc_X10_dip := rfl
theorem hcod_X10_gust : hcod 157 = hc_X10_gust := rfl
theorem hcod_X10_isSo : hcod 158 = hc_X10_isSo := rfl
theorem hcod_X10_mostAlike : hcod 159 = hc_X10_mostAlike := rfl
theorem hcod_X9_ask : hcod 160 = hc_X9_ask := rfl
theorem hcod_X9_which : hcod 161 = hc_X9_which := rfl
theorem hcod_X10_which : hcod 162 = hc_X10_which := rfl
theorem hcod_X10_ask : hcod 163 = hc_X10_ask := rfl
end
section
theorem goodIn_r9 {big : List Cond} (ws : List Cond) (ps : List Nat) (hp : ws = ps.filterMap (fun i => big[i]?)) (h : ws.all goodWord = true) : GoodIn big ws := by
  intro w hw
  have h1 := List.all_eq_true.mp h w hw
  rw [hp] at hw
  obtain ⟨i, -, hi⟩ := List.mem_filterMap.mp hw
  have hm : w ∈ big := by first | exact List.mem_of_getElem? hi | exact List.getElem?_mem hi
  exact ⟨hm, good_of_word h1⟩
/-! What the tables say of each method and each instruction: checked by the kernel, row by row. -/
abbrev hI : Type := MethodName × ByteArray × Nat × Option FieldType × Nat × Nat × Nat × Nat × Nat × Nat
def hRefs : List (List Bool) := [[true, true, false, false], [true, false, false], [true, false, true, false, true, true, false, false], [true, false, false, false, false], [true, true, true, true, false], [false, false, false, false, false, false], [true, false], [true, false, false], [false, false, false, false, false, false, false, false, false, false, false, false, false, false, false, false], [true, true, true, true, true, true, true, true, true, true], [true, true, true, false, true, true, true, true, false, false, false, false, false, false, true, false, true, true, false, true, false, true, false, true, false, true]]
def hRef (k j : Nat) : Bool := (hRefs.getD k []).getD j false
def hNf : List Nat := [4, 3, 8, 5, 5, 6, 2, 3, 16, 10, 26]
def hT (k : Nat) : u_T := match k with
  | 0 => TX0
  | 1 => TX1
  | 2 => TX2
  | 3 => TX3
  | 4 => TX4
  | 5 => TX5
  | 6 => TX6
  | 7 => TX7
  | 8 => TX8
  | 9 => TX9
  | _ => TX10
def hR (k : Nat) : String := match k with
  | 0 => RX0
  | 1 => RX1
  | 2 => RX2
  | 3 => RX3
  | 4 => RX4
  | 5 => RX5
  | 6 => RX6
  | 7 => RX7
  | 8 => RX8
  | 9 => RX9
  | _ => RX10
def hi_J6_bitCount_0f7a4 : hI := (yJ6_bitCount_0f7a4, prog_13_method_49_code, 1, some .int, 0, 763, 762, 0, 105, 0)
def hi_J9_abs_0f7a4 : hI := (yJ9_abs_0f7a4, prog_14_method_59_code, 1, some .int, 0, 703, 702, 0, 103, 0)
def hi_J9_floorDiv_7cf53 : hI := (yJ9_floorDiv_7cf53, prog_14_method_47_code, 3, some .int, 0, 614, 613, 0, 103, 0)
def hi_J9_floorMod_7cf53 : hI := (yJ9_floorMod_7cf53, prog_14_method_50_code, 3, some .int, 0, 526, 525, 0, 103, 0)
def hi_J9_max_7cf53 : hI := (yJ9_max_7cf53, prog_14_method_65_code, 2, some .int, 0, 588, 587, 0, 103, 0)
def hi_J9_min_7cf53 : hI := (yJ9_min_7cf53, prog_14_method_69_code, 2, some .int, 0, 544, 543, 0, 103, 0)
def hi_X10_away : hI := (yX10_away, prog_12_method_3_code, 2, some .int, 0, 977, 976, 0, 102, 0)
def hi_X10_clear : hI := (yX10_clear, prog_12_method_5_code, 2, some .int, 0, 892, 890, 891, 102, 1)
def hi_X10_count : hI := (yX10_count, prog_12_method_62_code, 2, some .int, 0, 1114, 1112, 1113, 102, 1)
def hi_X10_forget : hI := (yX10_forget, prog_12_method_54_code, 2, some .int, 0, 1081, 1079, 1080, 102, 1)
def hi_X10_in : hI := (yX10_in, prog_12_method_2_code, 3, some .boolean, 0, 888, 887, 0, 102, 0)
def hi_X10_isToldAlready : hI := (yX10_isToldAlready, prog_12_method_12_code, 2, some .boolean, 0, 915, 914, 64, 102, 1)
def hi_X10_leastOf : hI := (yX10_leastOf, prog_12_method_10_code, 2, some .int, 0, 923, 922, 66, 102, 1)
def hi_X10_mostOf : hI := (yX10_mostOf, prog_12_method_11_code, 1, some .int, 0, 926, 925, 0, 102, 0)
def hi_X10_notes : hI := (yX10_notes, prog_12_method_29_code, 2, none, 0, 934, 933, 67, 102, 1)
def hi_X10_notesSpeed : hI := (yX10_notesSpeed, prog_12_method_28_code, 2, none, 0, 1008, 1007, 79, 102, 1)
def hi_X10_pitchGoal : hI := (yX10_pitchGoal, prog_12_method_23_code, 4, some .int, 0, 989, 988, 75, 102, 1)
def hi_X10_plain : hI := (yX10_plain, prog_12_method_14_code, 1, none, 0, 798, 797, 59, 102, 1)
def hi_X10_record : hI := (yX10_record, prog_12_method_40_code, 2, some .int, 0, 1025, 1023, 1024, 102, 1)
def hi_X10_takesOver : hI := (yX10_takesOver, prog_12_method_15_code, 2, none, 0, 802, 801, 60, 102, 1)
def hi_X10_towards : hI := (yX10_towards, prog_12_method_22_code, 3, some .int, 0, 992, 991, 0, 102, 0)
def hi_X10_tries : hI := (yX10_tries, prog_12_method_41_code, 2, none, 0, 1037, 1036, 81, 102, 1)
def hi_X10_turns : hI := (yX10_turns, prog_12_method_25_code, 3, none, 0, 1004, 1003, 78, 102, 1)
def hi_X10_undo : hI := (yX10_undo, prog_12_method_37_code, 2, some .int, 0, 1012, 1010, 1011, 102, 1)
def hi_X10_unlikeOnes : hI := (yX10_unlikeOnes, prog_12_method_46_code, 4, some .int, 0, 1065, 1064, 86, 102, 1)
def hi_X10_whichOf : hI := (yX10_whichOf, prog_12_method_8_code, 1, some .int, 0, 907, 906, 0, 102, 0)
def hi_X1_lose : hI := (yX1_lose, prog_3_method_2_code, 1, none, 0, 511, 510, 19, 99, 1)
def hi_X2_allHalves : hI := (yX2_allHalves, prog_4_method_10_code, 3, some .int, 0, 728, 727, 52, 101, 1)
def hi_X2_findTurn : hI := (yX2_findTurn, prog_4_method_3_code, 4, none, 0, 692, 691, 45, 101, 1)
def hi_X2_placeOf : hI := (yX2_placeOf, prog_4_method_7_code, 3, some .int, 0, 711, 710, 49, 101, 1)
def hi_X3_isTold : hI := (yX3_isTold, prog_5_method_7_code, 2, some .boolean, 0, 473, 472, 10, 95, 1)
def hi_X3_settingOf : hI := (yX3_settingOf, prog_5_method_8_code, 1, some .int, 0, 469, 468, 0, 95, 0)
def hi_X3_takesEnd : hI := (yX3_takesEnd, prog_5_method_6_code, 2, some .boolean, 0, 494, 493, 15, 95, 1)
def hi_X4_add : hI := (yX4_add, prog_6_method_2_code, 4, none, 0, 736, 735, 53, 100, 1)
def hi_X5_become : hI := (yX5_become, prog_7_method_3_code, 2, none, 0, 498, 497, 16, 93, 1)
def hi_X5_put : hI := (yX5_put, prog_7_method_6_code, 3, none, 0, 490, 489, 14, 93, 1)
def hi_X5_startAnew : hI := (yX5_startAnew, prog_7_method_2_code, 1, none, 0, 123, 122, 0, 93, 1)
def hi_X5_tell : hI := (yX5_tell, prog_7_method_4_code, 2, some .int, 0, 652, 651, 40, 93, 1)
def hi_X6_append : hI := (yX6_append, prog_8_method_2_code, 2, none, 0, 427, 426, 2, 94, 1)
def hi_X6_letterAt : hI := (yX6_letterAt, prog_8_method_3_code, 2, some .int, 0, 448, 447, 5, 94, 1)
def hi_X7_startAnew : hI := (yX7_startAnew, prog_9_method_2_code, 1, none, 0, 507, 506, 18, 98, 1)
def hi_X8_ahead : hI := (yX8_ahead, prog_10_method_10_code, 1, some .int, 0, 603, 602, 32, 97, 1)
def hi_X8_become : hI := (yX8_become, prog_10_method_3_code, 2, none, 0, 534, 533, 23, 97, 1)
def hi_X8_drag : hI := (yX8_drag, prog_10_method_13_code, 1, some .int, 0, 611, 610, 34, 97, 1)
def hi_X8_isWound : hI := (yX8_isWound, prog_10_method_6_code, 2, some .boolean, 0, 580, 579, 28, 97, 1)
def hi_X8_startAnew : hI := (yX8_startAnew, prog_10_method_2_code, 1, none, 0, 207, 206, 1, 97, 1)
def hi_X8_torqueAim : hI := (yX8_torqueAim, prog_10_method_8_code, 2, some .int, 0, 595, 594, 30, 97, 1)
def hi_X8_turnBy : hI := (yX8_turnBy, prog_10_method_15_code, 2, none, 0, 622, 621, 36, 97, 1)
def hi_X9_alikeUpTo : hI := (yX9_alikeUpTo, prog_1_method_29_code, 5, some .int, 0, 774, 773, 58, 92, 1)
def hi_X9_clear : hI := (yX9_clear, prog_1_method_3_code, 2, some .int, 0, 431, 429, 430, 92, 1)
def hi_X9_count : hI := (yX9_count, prog_1_method_33_code, 2, some .int, 0, 788, 786, 787, 92, 1)
def hi_X9_forget : hI := (yX9_forget, prog_1_method_23_code, 2, some .int, 0, 740, 738, 739, 92, 1)
def hi_X9_isWithin : hI := (yX9_isWithin, prog_1_method_34_code, 3, some .boolean, 0, 423, 422, 0, 92, 0)
def hi_X9_loseImages : hI := (yX9_loseImages, prog_1_method_5_code, 2, none, 0, 515, 514, 20, 92, 1)
def hi_X0_startAnew : hI := (yX0_startAnew, prog_2_method_2_code, 1, none, 1, 502, 501, 17, 96, 1)
def hi_X10_back : hI := (yX10_back, prog_12_method_61_code, 3, some .int, 1, 1110, 1108, 1109, 102, 1)
def hi_X10_becomes : hI := (yX10_becomes, prog_12_method_32_code, 3, some .int, 1, 946, 945, 68, 102, 1)
def hi_X10_blows : hI := (yX10_blows, prog_12_method_30_code, 4, some .int, 1, 930, 928, 929, 102, 1)
def hi_X10_closes : hI := (yX10_closes, prog_12_method_48_code, 2, some .boolean, 1, 1069, 1068, 87, 102, 1)
def hi_X10_counts : hI := (yX10_counts, prog_12_method_20_code, 2, none, 1, 966, 965, 70, 102, 1)
def hi_X10_errorOf : hI := (yX10_errorOf, prog_12_method_17_code, 3, some .int, 1, 981, 980, 73, 102, 1)
def hi_X10_findsTurns : hI := (yX10_findsTurns, prog_12_method_47_code, 4, none, 1, 1061, 1060, 85, 102, 1)
def hi_X10_ices : hI := (yX10_ices, prog_12_method_31_code, 3, some .int, 1, 938, 936, 937, 102, 1)
def hi_X10_init : hI := (yX10_init, prog_12_method_1_code, 1, none, 1, 793, 792, 0, 102, 2)
def hi_X10_isFigure : hI := (yX10_isFigure, prog_12_method_6_code, 1, some .boolean, 1, 904, 903, 62, 102, 1)
def hi_X10_isWound : hI := (yX10_isWound, prog_12_method_19_code, 2, some .boolean, 1, 974, 973, 72, 102, 1)
def hi_X10_keep : hI := (yX10_keep, prog_12_method_60_code, 3, some .int, 1, 1106, 1104, 1105, 102, 1)
def hi_X10_resets : hI := (yX10_resets, prog_12_method_35_code, 1, some .int, 1, 954, 952, 953, 102, 1)
def hi_X10_sees : hI := (yX10_sees, prog_12_method_53_code, 4, some .int, 1, 1077, 1075, 1076, 102, 1)
def hi_X10_setting : hI := (yX10_setting, prog_12_method_39_code, 2, some .int, 1, 1021, 1019, 1020, 102, 1)
def hi_X10_type : hI := (yX10_type, prog_12_method_4_code, 2, some .int, 1, 885, 883, 884, 102, 1)
def hi_X2_addHalves : hI := (yX2_addHalves, prog_4_method_6_code, 4, none, 1, 707, 706, 48, 101, 1)
def hi_X2_greatestDifference : hI := (yX2_greatestDifference, prog_4_method_9_code, 3, some .int, 1, 723, 722, 51, 101, 1)
def hi_X2_halvesOf : hI := (yX2_halvesOf, prog_4_method_8_code, 3, some .int, 1, 715, 714, 50, 101, 1)
def hi_X2_init : hI := (yX2_init, prog_4_method_1_code, 1, none, 1, 354, 353, 0, 101, 2)
def hi_X2_isCycleInside : hI := (yX2_isCycleInside, prog_4_method_5_code, 4, some .boolean, 1, 700, 699, 47, 101, 1)
def hi_X3_takesLetter : hI := (yX3_takesLetter, prog_5_method_4_code, 2, some .boolean, 1, 466, 465, 9, 95, 1)
def hi_X4_init : hI := (yX4_init, prog_6_method_1_code, 1, none, 1, 326, 325, 0, 100, 2)
def hi_X5_init : hI := (yX5_init, prog_7_method_1_code, 1, none, 1, 118, 117, 0, 93, 2)
def hi_X5_mayBe : hI := (yX5_mayBe, prog_7_method_5_code, 3, some .boolean, 1, 485, 484, 13, 93, 1)
def hi_X6_behindBlanks : hI := (yX6_behindBlanks, prog_8_method_5_code, 3, some .int, 1, 444, 443, 4, 94, 1)
def hi_X6_init : hI := (yX6_init, prog_8_method_1_code, 1, none, 1, 155, 154, 0, 94, 2)
def hi_X6_isFigureAt : hI := (yX6_isFigureAt, prog_8_method_4_code, 2, some .boolean, 1, 456, 455, 7, 94, 1)
def hi_X7_add : hI := (yX7_add, prog_9_method_4_code, 2, none, 1, 626, 625, 37, 98, 1)
def hi_X7_become : hI := (yX7_become, prog_9_method_3_code, 2, none, 1, 538, 537, 24, 98, 1)
def hi_X7_init : hI := (yX7_init, prog_9_method_1_code, 1, none, 1, 271, 270, 0, 98, 2)
def hi_X7_speedAgo : hI := (yX7_speedAgo, prog_9_method_5_code, 2, some .int, 1, 660, 659, 41, 98, 1)
def hi_X8_drive : hI := (yX8_drive, prog_10_method_12_code, 2, some .int, 1, 607, 606, 33, 97, 1)
def hi_X8_error : hI := (yX8_error, prog_10_method_11_code, 2, some .int, 1, 599, 598, 31, 97, 1)
def hi_X8_init : hI := (yX8_init, prog_10_method_1_code, 1, none, 1, 202, 201, 0, 97, 2)
def hi_X8_nearer : hI := (yX8_nearer, prog_10_method_9_code, 3, some .int, 1, 591, 590, 0, 97, 0)
def hi_X8_nextMode : hI := (yX8_nextMode, prog_10_method_5_code, 4, some .int, 1, 576, 575, 27, 97, 1)
def hi_X8_pitchAim : hI := (yX8_pitchAim, prog_10_method_7_code, 2, some .int, 1, 584, 583, 29, 97, 1)
def hi_X8_turn : hI := (yX8_turn, prog_10_method_14_code, 3, none, 1, 618, 617, 35, 97, 1)
def hi_X9_sees : hI := (yX9_sees, prog_1_method_22_code, 4, some .int, 1, 732, 730, 731, 92, 1)
def hi_X9_setting : hI := (yX9_setting, prog_1_method_14_code, 2, some .int, 1, 648, 646, 647, 92, 1)
def hi_X9_type : hI := (yX9_type, prog_1_method_2_code, 2, some .int, 1, 420, 418, 419, 92, 1)
def hi_X0_become : hI := (yX0_become, prog_2_method_3_code, 2, none, 2, 530, 529, 22, 96, 1)
def hi_X0_init : hI := (yX0_init, prog_2_method_1_code, 1, none, 2, 196, 195, 0, 96, 2)
def hi_X10_driveOf : hI := (yX10_driveOf, prog_12_method_18_code, 3, some .int, 2, 996, 995, 76, 102, 1)
def hi_X10_grids : hI := (yX10_grids, prog_12_method_33_code, 2, some .int, 2, 942, 940, 941, 102, 1)
def hi_X10_looksUp : hI := (yX10_looksUp, prog_12_method_26_code, 7, none, 2, 1000, 999, 77, 102, 1)
def hi_X10_modeOf : hI := (yX10_modeOf, prog_12_method_21_code, 3, some .int, 2, 970, 969, 71, 102, 1)
def hi_X10_next : hI := (yX10_next, prog_12_method_7_code, 1, none, 2, 900, 899, 61, 102, 1)
def hi_X10_rains : hI := (yX10_rains, prog_12_method_49_code, 2, none, 2, 1057, 1056, 84, 102, 1)
def hi_X10_wants : hI := (yX10_wants, prog_12_method_34_code, 2, some .int, 2, 950, 948, 949, 102, 1)
def hi_X2_addToRow : hI := (yX2_addToRow, prog_4_method_4_code, 2, none, 2, 696, 695, 46, 101, 1)
def hi_X3_init : hI := (yX3_init, prog_5_method_1_code, 1, none, 2, 171, 170, 0, 95, 2)
def hi_X3_takesNumber : hI := (yX3_takesNumber, prog_5_method_5_code, 2, some .boolean, 2, 481, 480, 12, 95, 1)
def hi_X6_behindToken : hI := (yX6_behindToken, prog_8_method_6_code, 3, some .int, 2, 452, 451, 6, 94, 1)
def hi_X6_numberAt : hI := (yX6_numberAt, prog_8_method_7_code, 6, some .int, 2, 477, 476, 11, 94, 1)
def hi_X8_step : hI := (yX8_step, prog_10_method_4_code, 3, none, 2, 572, 571, 26, 97, 1)
def hi_X8_tell : hI := (yX8_tell, prog_10_method_16_code, 2, some .int, 2, 643, 642, 39, 97, 1)
def hi_X9_record : hI := (yX9_record, prog_1_method_15_code, 2, some .int, 2, 656, 654, 655, 92, 1)
def hi_X0_tick : hI := (yX0_tick, prog_2_method_4_code, 3, none, 3, 568, 567, 25, 96, 1)
def hi_X10_halvesOf : hI := (yX10_halvesOf, prog_12_method_50_code, 2, some .int, 3, 1053, 1052, 83, 102, 1)
def hi_X10_holds : hI := (yX10_holds, prog_12_method_24_code, 5, none, 3, 985, 984, 74, 102, 1)
def hi_X10_must : hI := (yX10_must, prog_12_method_9_code, 2, none, 3, 919, 918, 65, 102, 1)
def hi_X10_now : hI := (yX10_now, prog_12_method_38_code, 2, some .int, 3, 1016, 1014, 1015, 102, 1)
def hi_X10_rain : hI := (yX10_rain, prog_12_method_52_code, 6, some .int, 3, 1073, 1071, 1072, 102, 1)
def hi_X1_add : hI := (yX1_add, prog_3_method_3_code, 2, none, 3, 523, 522, 21, 99, 1)
def hi_X1_init : hI := (yX1_init, prog_3_method_1_code, 2, none, 3, 306, 305, 0, 99, 2)
def hi_X1_takeLatest : hI := (yX1_takeLatest, prog_3_method_4_code, 2, none, 3, 635, 634, 38, 99, 1)
def hi_X2_pour : hI := (yX2_pour, prog_4_method_2_code, 3, none, 3, 687, 686, 44, 101, 1)
def hi_X3_takes : hI := (yX3_takes, prog_5_method_3_code, 4, some .boolean, 3, 461, 460, 8, 95, 1)
def hi_X9_back : hI := (yX9_back, prog_1_method_32_code, 2, some .int, 3, 784, 782, 783, 92, 1)
def hi_X9_bearsGust : hI := (yX9_bearsGust, prog_1_method_17_code, 4, some .boolean, 3, 669, 668, 42, 92, 1)
def hi_X9_keep : hI := (yX9_keep, prog_1_method_31_code, 2, some .int, 3, 779, 777, 778, 92, 1)
def hi_X9_now : hI := (yX9_now, prog_1_method_13_code, 2, some .int, 3, 639, 637, 638, 92, 1)
def hi_X9_ridesDip : hI := (yX9_ridesDip, prog_1_method_19_code, 3, some .boolean, 3, 679, 678, 43, 92, 1)
def hi_X9_speedAfter : hI := (yX9_speedAfter, prog_1_method_30_code, 5, some .int, 3, 756, 755, 56, 92, 1)
def hi_X10_goesOn : hI := (yX10_goesOn, prog_12_method_27_code, 4, none, 4, 962, 961, 69, 102, 1)
def hi_X10_halves : hI := (yX10_halves, prog_12_method_51_code, 2, some .int, 4, 1049, 1047, 1048, 102, 1)
def hi_X10_readsItem : hI := (yX10_readsItem, prog_12_method_13_code, 3, none, 4, 911, 910, 63, 102, 1)
def hi_X3_read : hI := (yX3_read, prog_5_method_2_code, 5, some .int, 4, 439, 438, 3, 95, 1)
def hi_X9_agreesWithSeen : hI := (yX9_agreesWithSeen, prog_1_method_27_code, 3, some .boolean, 4, 752, 751, 55, 92, 1)
def hi_X9_blows : hI := (yX9_blows, prog_1_method_6_code, 5, some .int, 4, 519, 517, 518, 92, 1)
def hi_X9_dip : hI := (yX9_dip, prog_1_method_18_code, 3, some .int, 4, 675, 673, 674, 92, 1)
def hi_X9_grids : hI := (yX9_grids, prog_1_method_8_code, 3, some .int, 4, 552, 550, 551, 92, 1)
def hi_X9_gust : hI := (yX9_gust, prog_1_method_16_code, 3, some .int, 4, 665, 663, 664, 92, 1)
def hi_X9_halves : hI := (yX9_halves, prog_1_method_20_code, 2, some .int, 4, 683, 681, 682, 92, 1)
def hi_X9_ices : hI := (yX9_ices, prog_1_method_7_code, 4, some .int, 4, 548, 546, 547, 92, 1)
def hi_X9_init : hI := (yX9_init, prog_1_method_1_code, 1, none, 4, 110, 109, 0, 92, 2)
def hi_X9_mostAlike : hI := (yX9_mostAlike, prog_1_method_28_code, 5, some .int, 4, 770, 769, 57, 92, 1)
def hi_X9_rain : hI := (yX9_rain, prog_1_method_21_code, 2, some .int, 4, 719, 717, 718, 92, 1)
def hi_X9_resets : hI := (yX9_resets, prog_1_method_10_code, 2, some .int, 4, 560, 558, 559, 92, 1)
def hi_X9_ticks : hI := (yX9_ticks, prog_1_method_11_code, 3, some .int, 4, 564, 562, 563, 92, 1)
def hi_X9_undo : hI := (yX9_undo, prog_1_method_12_code, 1, some .int, 4, 631, 629, 630, 92, 1)
def hi_X9_wants : hI := (yX9_wants, prog_1_method_9_code, 3, some .int, 4, 556, 554, 555, 92, 1)
def hi_X10_bears : hI := (yX10_bears, prog_12_method_42_code, 5, some .boolean, 5, 1033, 1032, 80, 102, 1)
def hi_X10_rides : hI := (yX10_rides, prog_12_method_44_code, 4, some .boolean, 5, 1045, 1044, 82, 102, 1)
def hi_X10_speedBy : hI := (yX10_speedBy, prog_12_method_55_code, 5, some .int, 5, 1093, 1092, 89, 102, 1)
def hi_X10_tells : hI := (yX10_tells, prog_12_method_16_code, 2, some .int, 5, 896, 894, 895, 102, 1)
def hi_X10_ticks : hI := (yX10_ticks, prog_12_method_36_code, 3, some .int, 5, 958, 956, 957, 102, 1)
def hi_X9_possibleIce : hI := (yX9_possibleIce, prog_1_method_26_code, 3, some .int, 5, 748, 747, 54, 92, 1)
def hi_X9_tells : hI := (yX9_tells, prog_1_method_4_code, 2, some .int, 5, 435, 433, 434, 92, 1)
def hi_X10_dip : hI := (yX10_dip, prog_12_method_45_code, 3, some .int, 6, 1041, 1039, 1040, 102, 1)
def hi_X10_gust : hI := (yX10_gust, prog_12_method_43_code, 4, some .int, 6, 1029, 1027, 1028, 102, 1)
def hi_X10_isSo : hI := (yX10_isSo, prog_12_method_56_code, 4, some .boolean, 6, 1089, 1088, 88, 102, 1)
def hi_X10_mostAlike : hI := (yX10_mostAlike, prog_12_method_58_code, 7, some .int, 6, 1102, 1101, 90, 102, 1)
def hi_X9_ask : hI := (yX9_ask, prog_1_method_25_code, 6, some .int, 6, 760, 758, 759, 92, 1)
def hi_X9_which : hI := (yX9_which, prog_1_method_24_code, 1, some .int, 6, 744, 742, 743, 92, 1)
def hi_X10_which : hI := (yX10_which, prog_12_method_57_code, 3, some .int, 7, 1085, 1083, 1084, 102, 1)
def hi_X10_ask : hI := (yX10_ask, prog_12_method_59_code, 7, some .int, 8, 1097, 1095, 1096, 102, 1)
def hInf : List hI := [hi_J6_bitCount_0f7a4, hi_J9_abs_0f7a4, hi_J9_floorDiv_7cf53, hi_J9_floorMod_7cf53, hi_J9_max_7cf53, hi_J9_min_7cf53, hi_X10_away, hi_X10_clear, hi_X10_count, hi_X10_forget, hi_X10_in, hi_X10_isToldAlready, hi_X10_leastOf, hi_X10_mostOf, hi_X10_notes, hi_X10_notesSpeed, hi_X10_pitchGoal, hi_X10_plain, hi_X10_record, hi_X10_takesOver, hi_X10_towards, hi_X10_tries, hi_X10_turns, hi_X10_undo, hi_X10_unlikeOnes, hi_X10_whichOf, hi_X1_lose, hi_X2_allHalves, hi_X2_findTurn, hi_X2_placeOf, hi_X3_isTold, hi_X3_settingOf, hi_X3_takesEnd, hi_X4_add, hi_X5_become, hi_X5_put, hi_X5_startAnew, hi_X5_tell, hi_X6_append, hi_X6_letterAt, hi_X7_startAnew, hi_X8_ahead, hi_X8_become, hi_X8_drag, hi_X8_isWound, hi_X8_startAnew, hi_X8_torqueAim, hi_X8_turnBy, hi_X9_alikeUpTo, hi_X9_clear, hi_X9_count, hi_X9_forget, hi_X9_isWithin, hi_X9_loseImages, hi_X0_startAnew, hi_X10_back, hi_X10_becomes, hi_X10_blows, hi_X10_closes, hi_X10_counts, hi_X10_errorOf, hi_X10_findsTurns, hi_X10_ices, hi_X10_init, hi_X10_isFigure, hi_X10_isWound, hi_X10_keep, hi_X10_resets, hi_X10_sees, hi_X10_setting, hi_X10_type, hi_X2_addHalves, hi_X2_greatestDifference, hi_X2_halvesOf, hi_X2_init, hi_X2_isCycleInside, hi_X3_takesLetter, hi_X4_init, hi_X5_init, hi_X5_mayBe, hi_X6_behindBlanks, hi_X6_init, hi_X6_isFigureAt, hi_X7_add, hi_X7_become, hi_X7_init, hi_X7_speedAgo, hi_X8_drive, hi_X8_error, hi_X8_init, hi_X8_nearer, hi_X8_nextMode, hi_X8_pitchAim, hi_X8_turn, hi_X9_sees, hi_X9_setting, hi_X9_type, hi_X0_become, hi_X0_init, hi_X10_driveOf, hi_X10_grids, hi_X10_looksUp, hi_X10_modeOf, hi_X10_next, hi_X10_rains, hi_X10_wants, hi_X2_addToRow, hi_X3_init, hi_X3_takesNumber, hi_X6_behindToken, hi_X6_numberAt, hi_X8_step, hi_X8_tell, hi_X9_record, hi_X0_tick, hi_X10_halvesOf, hi_X10_holds, hi_X10_must, hi_X10_now, hi_X10_rain, hi_X1_add, hi_X1_init, hi_X1_takeLatest, hi_X2_pour, hi_X3_takes, hi_X9_back, hi_X9_bearsGust, hi_X9_keep, hi_X9_now, hi_X9_ridesDip, hi_X9_speedAfter, hi_X10_goesOn, hi_X10_halves, hi_X10_readsItem, hi_X3_read, hi_X9_agreesWithSeen, hi_X9_blows, hi_X9_dip, hi_X9_grids, hi_X9_gust, hi_X9_halves, hi_X9_ices, hi_X9_init, hi_X9_mostAlike, hi_X9_rain, hi_X9_resets, hi_X9_ticks, hi_X9_undo, hi_X9_wants, hi_X10_bears, hi_X10_rides, hi_X10_speedBy, hi_X10_tells, hi_X10_ticks, hi_X9_possibleIce, hi_X9_tells, hi_X10_dip, hi_X10_gust, hi_X10_isSo, hi_X10_mostAlike, hi_X9_ask, hi_X9_which, hi_X10_which, hi_X10_ask]
theorem hin_X0 : ∀ w ∈ u_ws RX0 TX0 4, w ∈ lw_tbl := fun w h => (goodIn_r9 (big := lw_tbl) (u_ws RX0 TX0 4) [293, 295, 297, 299] (by decide +kernel) (by decide +kernel) w h).1
theorem hin_X1 : ∀ w ∈ u_ws RX1 TX1 3, w ∈ lw_tbl := fun w h => (goodIn_r9 (big := lw_tbl) (u_ws RX1 TX1 3) [315, 317, 319] (by decide +kernel) (by decide +kernel) w h).1
theorem hin_X2 : ∀ w ∈ u_ws RX2 TX2 8, w ∈ lw_tbl := fun w h => (goodIn_r9 (big := lw_tbl) (u_ws RX2 TX2 8) [367, 369, 371, 373, 375, 377, 379, 381] (by decide +kernel) (by decide +kernel) w h).1
theorem hin_X3 : ∀ w ∈ u_ws RX3 TX3 5, w ∈ lw_tbl := fun w h => (goodIn_r9 (big := lw_tbl) (u_ws RX3 TX3 5) [181, 183, 185, 187, 189] (by decide +kernel) (by decide +kernel) w h).1
theorem hin_X4 : ∀ w ∈ u_ws RX4 TX4 5, w ∈ lw_tbl := fun w h => (goodIn_r9 (big := lw_tbl) (u_ws RX4 TX4 5) [338, 340, 342, 344, 346] (by decide +kernel) (by decide +kernel) w h).1
theorem hin_X5 : ∀ w ∈ u_ws RX5 TX5 6, w ∈ lw_tbl := fun w h => (goodIn_r9 (big := lw_tbl) (u_ws RX5 TX5 6) [138, 140, 142, 144, 146, 148] (by decide +kernel) (by decide +kernel) w h).1
theorem hin_X6 : ∀ w ∈ u_ws RX6 TX6 2, w ∈ lw_tbl := fun w h => (goodIn_r9 (big := lw_tbl) (u_ws RX6 TX6 2) [161, 163] (by decide +kernel) (by decide +kernel) w h).1
theorem hin_X7 : ∀ w ∈ u_ws RX7 TX7 3, w ∈ lw_tbl := fun w h => (goodIn_r9 (big := lw_tbl) (u_ws RX7 TX7 3) [278, 280, 282] (by decide +kernel) (by decide +kernel) w h).1
theorem hin_X8 : ∀ w ∈ u_ws RX8 TX8 16, w ∈ lw_tbl := fun w h => (goodIn_r9 (big := lw_tbl) (u_ws RX8 TX8 16) [234, 236, 238, 240, 242, 244, 246, 248, 250, 252, 254, 256, 258, 260, 262, 264] (by decide +kernel) (by decide +kernel) w h).1
theorem hin_X9 : ∀ w ∈ u_ws RX9 TX9 10, w ∈ lw_tbl := fun w h => (goodIn_r9 (big := lw_tbl) (u_ws RX9 TX9 10) [396, 398, 400, 402, 404, 406, 408, 410, 412, 414] (by decide +kernel) (by decide +kernel) w h).1
theorem hin_X10 : ∀ w ∈ u_ws RX10 TX10 26, w ∈ lw_tbl := fun w h => (goodIn_r9 (big := lw_tbl) (u_ws RX10 TX10 26) [829, 831, 833, 835, 837, 839, 841, 843, 845, 847, 849, 851, 853, 855, 857, 859, 861, 863, 865, 867, 869, 871, 873, 875, 877, 879] (by decide +kernel) (by decide +kernel) w h).1
def hRefT (o : Option FieldType) : Bool := match o with
  | some (.object _) => true
  | some (.array _) => true
  | _ => false
/-- a callee, as the tables have it -/
def hChkC (I : hI) (a b : Nat) (q : Nat) (idx : Nat) (d : Nat) (kind : Nat) (v : Int32) : Bool := match hInf[a]? with
  | some J => decide (J.2.2.2.2.1 < I.2.2.2.2.1) && (decide (lw_tbl[q]? = some (.methodLink I.1.cls idx J.1)) || decide (lw_tbl[q]? = some (.methodLinkNest I.1.cls idx J.1 "HeldBlades"))) && decide ((parseMethodDescriptor J.1.desc).map (fun d => d.parameters.length) = some b) && decide (J.2.2.2.2.2.2.2.2.2 = kind) && (decide (kind = 0) || (decide (d < 11) && decide (J.1.cls = hR d))) && (match J.2.2.2.1 with
      | none => decide (v = 0)
      | some _ => decide (v = 1))
  | none => false
def hChkI (I : hI) (e : hE) : Bool := match e with
  | (pc, i, nx, a, b, d, q, v) => match i with
    | .iconst n => decide (Int32.ofInt n = v) && decide (nx = pc + 1)
    | .bipush n => decide ((Int8.ofInt n).toInt32 = v) && decide (nx = pc + 2)
    | .sipush n => decide ((Int16.ofInt n).toInt32 = v) && decide (nx = pc + 3)
    | .ldc j => decide (lw_tbl[q]? = some (.constant I.1.cls j v)) && decide (nx = pc + 2)
    | .ldc_w j => decide (lw_tbl[q]? = some (.constant I.1.cls j v)) && decide (nx = pc + 3)
    | .iload_n k => decide (k.val = a) && decide (nx = pc + 1)
    | .aload_n k => decide (k.val = a) && decide (nx = pc + 1)
    | .istore_n k => decide (k.val = a) && decide (nx = pc + 1) && decide (a < I.2.2.1)
    | .astore_n k => decide (k.val = a) && decide (nx = pc + 1) && decide (a < I.2.2.1)
    | .iload k => decide (k = a) && decide (nx = pc + 2)
    | .istore k => decide (k = a) && decide (nx = pc + 2) && decide (a < I.2.2.1)
    | .iinc k n => decide (k = a) && decide (Int32.ofInt n = v) && decide (nx = pc + 3) && decide (a < I.2.2.1)
    | .if_icmp _ off => decide ((pc : Int) + off = (a : Int)) && decide (nx = pc + 3)
    | .ifCond _ off => decide ((pc : Int) + off = (a : Int)) && decide (nx = pc + 3)
    | .goto off => decide ((pc : Int) + off = (a : Int)) && decide (nx = pc + 3)
    | .tableswitch d lo hi offs => decide (hi - lo + 1 = (offs.size : Int)) && decide (0 ≤ (pc : Int) + d) && offs.all (fun o => decide (0 ≤ (pc : Int) + o))
    | .lookupswitch d ps => (ps.toList.zip (ps.toList.drop 1)).all (fun (a, next) => a.1 < next.1) && decide (0 ≤ (pc : Int) + d) && ps.toList.all (fun o => decide (0 ≤ (pc : Int) + o.2))
    | .getfield idx => decide (a < 11) && decide (b < hNf.getD a 0) && (decide (lw_tbl[q]? = some (.fieldLink I.1.cls idx (hT a b).1 (hT a b).2.1 (hT a b).2.2.1)) || decide (lw_tbl[q]? = some (.fieldLinkNest I.1.cls idx (hT a b).1 (hT a b).2.1 (hT a b).2.2.1 "HeldBlades"))) && decide (d = if hRef a b then 1 else 0) && decide (nx = pc + 3)
    | .putfield idx => decide (a < 11) && decide (b < hNf.getD a 0) && decide (nx = pc + 3) && (match d with
        | 1 => hRef a b && decide (lw_tbl[q]? = some (.fieldLink I.1.cls idx (hT a b).1 (hT a b).2.1 (hT a b).2.2.1)) && decide ((hT a b).2.2.2 = true) && decide ((hT a b).1 = I.1.cls) && decide (I.1.name = "<init>") && hRefT (parseFieldDescriptor (hT a b).2.2.1)
        | 0 => !hRef a b && (decide (lw_tbl[q]? = some (.fieldLink I.1.cls idx (hT a b).1 (hT a b).2.1 (hT a b).2.2.1)) || decide (lw_tbl[q]? = some (.fieldLinkNest I.1.cls idx (hT a b).1 (hT a b).2.1 (hT a b).2.2.1 "HeldBlades"))) && decide ((hT a b).2.2.2 = false) && decide (parseFieldDescriptor (hT a b).2.2.1 = some .int)
        | 2 => !hRef a b && (decide (lw_tbl[q]? = some (.fieldLink I.1.cls idx (hT a b).1 (hT a b).2.1 (hT a b).2.2.1)) || decide (lw_tbl[q]? = some (.fieldLinkNest I.1.cls idx (hT a b).1 (hT a b).2.1 (hT a b).2.2.1 "HeldBlades"))) && decide ((hT a b).2.2.2 = false) && decide (parseFieldDescriptor (hT a b).2.2.1 = some .boolean)
        | _ => false)
    | .new idx => decide (a < 11) && decide (lw_tbl[q]? = some (.classLink I.1.cls idx (hR a))) && decide (nx = pc + 3)
    | .newarray .int => decide (a = 10000) && decide (nx = pc + 2)
    | .newarray .boolean => decide (a = 20000) && decide (nx = pc + 2)
    | .newarray _ => false
    | .aload _ => false
    | .anewarray idx => decide (lw_tbl[q]? = some (.classLink I.1.cls idx "HeldBlades$Moment")) && decide (nx = pc + 3)
    | .invokestatic idx => decide (nx = pc + 3) && (if a = 9999 then decide (lw_tbl[q]? = some (.methodLink I.1.cls idx arraycopyName)) && decide (1 ≤ I.2.2.2.2.1) else hChkC I a b q idx d 0 v)
    | .invokevirtual idx => decide (nx = pc + 3) && hChkC I a b q idx d 1 v
    | .invokespecial idx => decide (nx = pc + 3) && (if a = 9998 then decide (lw_tbl[q]? = some (.methodLink I.1.cls idx objectInit)) && decide (1 ≤ I.2.2.2.2.1) else hChkC I a b q idx d 2 v)
    | .ireturn => decide (nx = pc + 1) && (match d with
        | 0 => decide (I.2.2.2.1 = some .int)
        | 2 => decide (I.2.2.2.1 = some .boolean)
        | _ => false)
    | .return_ => decide (nx = pc + 1) && decide (I.2.2.2.1 = none)
    | _ => decide (nx = pc + 1)
def hChkE (I : hI) (e : hE) : Bool := decide (decode I.2.1 e.1 = .ok (e.2.1, e.2.2.1 - e.1)) && hChkI I e
/-- the method's own words -/
def hChkW (I : hI) : Bool := decide (lw_tbl[I.2.2.2.2.2.1]? = some (.code I.1 I.2.1 I.2.2.1 I.2.2.2.1)) && decide (lw_tbl[I.2.2.2.2.2.2.2.2.1]? = some (.initialized I.1.cls)) && decide (plainFor I.1 = true) && decide (I.1.cls ≠ "java/lang/invoke/MethodHandle") && decide (I.1.cls ≠ "java/lang/invoke/VarHandle") && decide (I.2.2.1 ≤ 20) && (match I.2.2.2.2.2.2.2.2.2 with
  | 0 => decide (lw_tbl[I.2.2.2.2.2.2.1]? = some (.static I.1))
  | 1 => decide (lw_tbl[I.2.2.2.2.2.2.1]? = some (.instanceMethod I.1)) && decide (lw_tbl[I.2.2.2.2.2.2.2.1]? = some (.selects I.1.cls I.1 I.1))
  | 2 => decide (lw_tbl[I.2.2.2.2.2.2.1]? = some (.instanceMethod I.1)) && decide (I.1.name = "<init>") && decide (I.2.2.2.1 = none)
  | _ => false)
def hChkM (I : hI) (C : hC) : Bool := decide (C.1 = I.2.2.1) && hChkW I && C.2.all (fun b => b.all (hChkE I))
theorem hk_J6_bitCount_0f7a4 : hChkM hi_J6_bitCount_0f7a4 hc_J6_bitCount_0f7a4 = true := by decide +kernel
theorem hk_J9_abs_0f7a4 : hChkM hi_J9_abs_0f7a4 hc_J9_abs_0f7a4 = true := by decide +kernel
theorem hk_J9_floorDiv_7cf53 : hChkM hi_J9_floorDiv_7cf53 hc_J9_floorDiv_7cf53 = true := by decide +kernel
theorem hk_J9_floorMod_7cf53 : hChkM hi_J9_floorMod_7cf53 hc_J9_floorMod_7cf53 = true := by decide +kernel
theorem hk_J9_max_7cf53 : hChkM hi_J9_max_7cf53 hc_J9_max_7cf53 = true := by decide +kernel
theorem hk_J9_min_7cf53 : hChkM hi_J9_min_7cf53 hc_J9_min_7cf53 = true := by decide +kernel
theorem hk_X10_away : hChkM hi_X10_away hc_X10_away = true := by decide +kernel
theorem hk_X10_clear : hChkM hi_X10_clear hc_X10_clear = true := by decide +kernel
theorem hk_X10_count : hChkM hi_X10_count hc_X10_count = true := by decide +kernel
theorem hk_X10_forget : hChkM hi_X10_forget hc_X10_forget = true := by decide +kernel
theorem hk_X10_in : hChkM hi_X10_in hc_X10_in = true := by decide +kernel
theorem hk_X10_isToldAlready : hChkM hi_X10_isToldAlready hc_X10_isToldAlready = true := by decide +kernel
theorem hk_X10_leastOf : hChkM hi_X10_leastOf hc_X10_leastOf = true := by decide +kernel
theorem hk_X10_mostOf : hChkM hi_X10_mostOf hc_X10_mostOf = true := by decide +kernel
theorem hk_X10_notes : hChkM hi_X10_notes hc_X10_notes = true := by decide +kernel
theorem hk_X10_notesSpeed : hChkM hi_X10_notesSpeed hc_X10_notesSpeed = true := by decide +kernel
theorem hk_X10_pitchGoal : hChkM hi_X10_pitchGoal hc_X10_pitchGoal = true := by decide +kernel
theorem hk_X10_plain : hChkM hi_X10_plain hc_X10_plain = true := by decide +kernel
theorem hk_X10_record : hChkM hi_X10_record hc_X10_record = true := by decide +kernel
theorem hk_X10_takesOver : hChkM hi_X10_takesOver hc_X10_takesOver = true := by decide +kernel
theorem hk_X10_towards : hChkM hi_X10_towards hc_X10_towards = true := by decide +kernel
theorem hk_X10_tries : hChkM hi_X10_tries hc_X10_tries = true := by decide +kernel
theorem hk_X10_turns : hChkM hi_X10_turns hc_X10_turns = true := by decide +kernel
theorem hk_X10_undo : hChkM hi_X10_undo hc_X10_undo = true := by decide +kernel
theorem hk_X10_unlikeOnes : hChkM hi_X10_unlikeOnes hc_X10_unlikeOnes = true := by decide +kernel
theorem hk_X10_whichOf : hChkM hi_X10_whichOf hc_X10_whichOf = true := by decide +kernel
theorem hk_X1_lose : hChkM hi_X1_lose hc_X1_lose = true := by decide +kernel
theorem hk_X2_allHalves : hChkM hi_X2_allHalves hc_X2_allHalves = true := by decide +kernel
theorem hk_X2_findTurn : hChkM hi_X2_findTurn hc_X2_findTurn = true := by decide +kernel
theorem hk_X2_placeOf : hChkM hi_X2_placeOf hc_X2_placeOf = true := by decide +kernel
theorem hk_X3_isTold : hChkM hi_X3_isTold hc_X3_isTold = true := by decide +kernel
theorem hk_X3_settingOf : hChkM hi_X3_settingOf hc_X3_settingOf = true := by decide +kernel
theorem hk_X3_takesEnd : hChkM hi_X3_takesEnd hc_X3_takesEnd = true := by decide +kernel
theorem hk_X4_add : hChkM hi_X4_add hc_X4_add = true := by decide +kernel
theorem hk_X5_become : hChkM hi_X5_become hc_X5_become = true := by decide +kernel
theorem hk_X5_put : hChkM hi_X5_put hc_X5_put = true := by decide +kernel
theorem hk_X5_startAnew : hChkM hi_X5_startAnew hc_X5_startAnew = true := by decide +kernel
theorem hk_X5_tell : hChkM hi_X5_tell hc_X5_tell = true := by decide +kernel
theorem hk_X6_append : hChkM hi_X6_append hc_X6_append = true := by decide +kernel
theorem hk_X6_letterAt : hChkM hi_X6_letterAt hc_X6_letterAt = true := by decide +kernel
theorem hk_X7_startAnew : hChkM hi_X7_startAnew hc_X7_startAnew = true := by decide +kernel
theorem hk_X8_ahead : hChkM hi_X8_ahead hc_X8_ahead = true := by decide +kernel
theorem hk_X8_become : hChkM hi_X8_become hc_X8_become = true := by decide +kernel
theorem hk_X8_drag : hChkM hi_X8_drag hc_X8_drag = true := by decide +kernel
theorem hk_X8_isWound : hChkM hi_X8_isWound hc_X8_isWound = true := by decide +kernel
theorem hk_X8_startAnew : hChkM hi_X8_startAnew hc_X8_startAnew = true := by decide +kernel
theorem hk_X8_torqueAim : hChkM hi_X8_torqueAim hc_X8_torqueAim = true := by decide +kernel
theorem hk_X8_turnBy : hChkM hi_X8_turnBy hc_X8_turnBy = true := by decide +kernel
theorem hk_X9_alikeUpTo : hChkM hi_X9_alikeUpTo hc_X9_alikeUpTo = true := by decide +kernel
theorem hk_X9_clear : hChkM hi_X9_clear hc_X9_clear = true := by decide +kernel
theorem hk_X9_count : hChkM hi_X9_count hc_X9_count = true := by decide +kernel
theorem hk_X9_forget : hChkM hi_X9_forget hc_X9_forget = true := by decide +kernel
theorem hk_X9_isWithin : hChkM hi_X9_isWithin hc_X9_isWithin = true := by decide +kernel
theorem hk_X9_loseImages : hChkM hi_X9_loseImages hc_X9_loseImages = true := by decide +kernel
theorem hk_X0_startAnew : hChkM hi_X0_startAnew hc_X0_startAnew = true := by decide +kernel
theorem hk_X10_back : hChkM hi_X10_back hc_X10_back = true := by decide +kernel
theorem hk_X10_becomes : hChkM hi_X10_becomes hc_X10_becomes = true := by decide +kernel
theorem hk_X10_blows : hChkM hi_X10_blows hc_X10_blows = true := by decide +kernel
theorem hk_X10_closes : hChkM hi_X10_closes hc_X10_closes = true := by decide +kernel
theorem hk_X10_counts : hChkM hi_X10_counts hc_X10_counts = true := by decide +kernel
theorem hk_X10_errorOf : hChkM hi_X10_errorOf hc_X10_errorOf = true := by decide +kernel
theorem hk_X10_findsTurns : hChkM hi_X10_findsTurns hc_X10_findsTurns = true := by decide +kernel
theorem hk_X10_ices : hChkM hi_X10_ices hc_X10_ices = true := by decide +kernel
theorem hk_X10_init : hChkM hi_X10_init hc_X10_init = true := by decide +kernel
theorem hk_X10_isFigure : hChkM hi_X10_isFigure hc_X10_isFigure = true := by decide +kernel
theorem hk_X10_isWound : hChkM hi_X10_isWound hc_X10_isWound = true := by decide +kernel
theorem hk_X10_keep : hChkM hi_X10_keep hc_X10_keep = true := by decide +kernel
theorem hk_X10_resets : hChkM hi_X10_resets hc_X10_resets = true := by decide +kernel
theorem hk_X10_sees : hChkM hi_X10_sees hc_X10_sees = true := by decide +kernel
theorem hk_X10_setting : hChkM hi_X10_setting hc_X10_setting = true := by decide +kernel
theorem hk_X10_type : hChkM hi_X10_type hc_X10_type = true := by decide +kernel
theorem hk_X2_addHalves : hChkM hi_X2_addHalves hc_X2_addHalves = true := by decide +kernel
theorem hk_X2_greatestDifference : hChkM hi_X2_greatestDifference hc_X2_greatestDifference = true := by decide +kernel
theorem hk_X2_halvesOf : hChkM hi_X2_halvesOf hc_X2_halvesOf = true := by decide +kernel
theorem hk_X2_init : hChkM hi_X2_init hc_X2_init = true := by decide +kernel
theorem hk_X2_isCycleInside : hChkM hi_X2_isCycleInside hc_X2_isCycleInside = true := by decide +kernel
theorem hk_X3_takesLetter : hChkM hi_X3_takesLetter hc_X3_takesLetter = true := by decide +kernel
theorem hk_X4_init : hChkM hi_X4_init hc_X4_init = true := by decide +kernel
theorem hk_X5_init : hChkM hi_X5_init hc_X5_init = true := by decide +kernel
theorem hk_X5_mayBe : hChkM hi_X5_mayBe hc_X5_mayBe = true := by decide +kernel
theorem hk_X6_behindBlanks : hChkM hi_X6_behindBlanks hc_X6_behindBlanks = true := by decide +kernel
theorem hk_X6_init : hChkM hi_X6_init hc_X6_init = true := by decide +kernel
theorem hk_X6_isFigureAt : hChkM hi_X6_isFigureAt hc_X6_isFigureAt = true := by decide +kernel
theorem hk_X7_add : hChkM hi_X7_add hc_X7_add = true := by decide +kernel
theorem hk_X7_become : hChkM hi_X7_become hc_X7_become = true := by decide +kernel
theorem hk_X7_init : hChkM hi_X7_init hc_X7_init = true := by decide +kernel
theorem hk_X7_speedAgo : hChkM hi_X7_speedAgo hc_X7_speedAgo = true := by decide +kernel
theorem hk_X8_drive : hChkM hi_X8_drive hc_X8_drive = true := by decide +kernel
theorem hk_X8_error : hChkM hi_X8_error hc_X8_error = true := by decide +kernel
theorem hk_X8_init : hChkM hi_X8_init hc_X8_init = true := by decide +kernel
theorem hk_X8_nearer : hChkM hi_X8_nearer hc_X8_nearer = true := by decide +kernel
theorem hk_X8_nextMode : hChkM hi_X8_nextMode hc_X8_nextMode = true := by decide +kernel
theorem hk_X8_pitchAim : hChkM hi_X8_pitchAim hc_X8_pitchAim = true := by decide +kernel
theorem hk_X8_turn : hChkM hi_X8_turn hc_X8_turn = true := by decide +kernel
theorem hk_X9_sees : hChkM hi_X9_sees hc_X9_sees = true := by decide +kernel
theorem hk_X9_setting : hChkM hi_X9_setting hc_X9_setting = true := by decide +kernel
theorem hk_X9_type : hChkM hi_X9_type hc_X9_type = true := by decide +kernel
theorem hk_X0_become : hChkM hi_X0_become hc_X0_become = true := by decide +kernel
theorem hk_X0_init : hChkM hi_X0_init hc_X0_init = true := by decide +kernel
theorem hk_X10_driveOf : hChkM hi_X10_driveOf hc_X10_driveOf = true := by decide +kernel
theorem hk_X10_grids : hChkM hi_X10_grids hc_X10_grids = true := by decide +kernel
theorem hk_X10_looksUp : hChkM hi_X10_looksUp hc_X10_looksUp = true := by decide +kernel
theorem hk_X10_modeOf : hChkM hi_X10_modeOf hc_X10_modeOf = true := by decide +kernel
theorem hk_X10_next : hChkM hi_X10_next hc_X10_next = true := by decide +kernel
theorem hk_X10_rains : hChkM hi_X10_rains hc_X10_rains = true := by decide +kernel
theorem hk_X10_wants : hChkM hi_X10_wants hc_X10_wants = true := by decide +kernel
theorem hk_X2_addToRow : hChkM hi_X2_addToRow hc_X2_addToRow = true := by decide +kernel
theorem hk_X3_init : hChkM hi_X3_init hc_X3_init = true := by decide +kernel
theorem hk_X3_takesNumber : hChkM hi_X3_takesNumber hc_X3_takesNumber = true := by decide +kernel
theorem hk_X6_behindToken : hChkM hi_X6_behindToken hc_X6_behindToken = true := by decide +kernel
theorem hk_X6_numberAt : hChkM hi_X6_numberAt hc_X6_numberAt = true := by decide +kernel
theorem hk_X8_step : hChkM hi_X8_step hc_X8_step = true := by decide +kernel
theorem hk_X8_tell : hChkM hi_X8_tell hc_X8_tell = true := by decide +kernel
theorem hk_X9_record : hChkM hi_X9_record hc_X9_record = true := by decide +kernel
theorem hk_X0_tick : hChkM hi_X0_tick hc_X0_tick = true := by decide +kernel
theorem hk_X10_halvesOf : hChkM hi_X10_halvesOf hc_X10_halvesOf = true := by decide +kernel
theorem hk_X10_holds : hChkM hi_X10_holds hc_X10_holds = true := by decide +kernel
theorem hk_X10_must : hChkM hi_X10_must hc_X10_must = true := by decide +kernel
theorem hk_X10_now : hChkM hi_X10_now hc_X10_now = true := by decide +kernel
theorem hk_X10_rain : hChkM hi_X10_rain hc_X10_rain = true := by decide +kernel
theorem hk_X1_add : hChkM hi_X1_add hc_X1_add = true := by decide +kernel
theorem hk_X1_init : hChkM hi_X1_init hc_X1_init = true := by decide +kernel
theorem hk_X1_takeLatest : hChkM hi_X1_takeLatest hc_X1_takeLatest = true := by decide +kernel
theorem hk_X2_pour : hChkM hi_X2_pour hc_X2_pour = true := by decide +kernel
theorem hk_X3_takes : hChkM hi_X3_takes hc_X3_takes = true := by decide +kernel
theorem hk_X9_back : hChkM hi_X9_back hc_X9_back = true := by decide +kernel
theorem hk_X9_bearsGust : hChkM hi_X9_bearsGust hc_X9_bearsGust = true := by decide +kernel
theorem hk_X9_keep : hChkM hi_X9_keep hc_X9_keep = true := by decide +kernel
theorem hk_X9_now : hChkM hi_X9_now hc_X9_now = true := by decide +kernel
theorem hk_X9_ridesDip : hChkM hi_X9_ridesDip hc_X9_ridesDip = true := by decide +kernel
theorem hk_X9_speedAfter : hChkM hi_X9_speedAfter hc_X9_speedAfter = true := by decide +kernel
theorem hk_X10_goesOn : hChkM hi_X10_goesOn hc_X10_goesOn = true := by decide +kernel
theorem hk_X10_halves : hChkM hi_X10_halves hc_X10_halves = true := by decide +kernel
theorem hk_X10_readsItem : hChkM hi_X10_readsItem hc_X10_readsItem = true := by decide +kernel
theorem hk_X3_read : hChkM hi_X3_read hc_X3_read = true := by decide +kernel
theorem hk_X9_agreesWithSeen : hChkM hi_X9_agreesWithSeen hc_X9_agreesWithSeen = true := by decide +kernel
theorem hk_X9_blows : hChkM hi_X9_blows hc_X9_blows = true := by decide +kernel
theorem hk_X9_dip : hChkM hi_X9_dip hc_X9_dip = true := by decide +kernel
theorem hk_X9_grids : hChkM hi_X9_grids hc_X9_grids = true := by decide +kernel
theorem hk_X9_gust : hChkM hi_X9_gust hc_X9_gust = true := by decide +kernel
theorem hk_X9_halves : hChkM hi_X9_halves hc_X9_halves = true := by decide +kernel
theorem hk_X9_ices : hChkM hi_X9_ices hc_X9_ices = true := by decide +kernel
theorem hk_X9_init : hChkM hi_X9_init hc_X9_init = true := by decide +kernel
theorem hk_X9_mostAlike : hChkM hi_X9_mostAlike hc_X9_mostAlike = true := by decide +kernel
theorem hk_X9_rain : hChkM hi_X9_rain hc_X9_rain = true := by decide +kernel
theorem hk_X9_resets : hChkM hi_X9_resets hc_X9_resets = true := by decide +kernel
theorem hk_X9_ticks : hChkM hi_X9_ticks hc_X9_ticks = true := by decide +kernel
theorem hk_X9_undo : hChkM hi_X9_undo hc_X9_undo = true := by decide +kernel
theorem hk_X9_wants : hChkM hi_X9_wants hc_X9_wants = true := by decide +kernel
theorem hk_X10_bears : hChkM hi_X10_bears hc_X10_bears = true := by decide +kernel
theorem hk_X10_rides : hChkM hi_X10_rides hc_X10_rides = true := by decide +kernel
theorem hk_X10_speedBy : hChkM hi_X10_speedBy hc_X10_speedBy = true := by decide +kernel
theorem hk_X10_tells : hChkM hi_X10_tells hc_X10_tells = true := by decide +kernel
theorem hk_X10_ticks : hChkM hi_X10_ticks hc_X10_ticks = true := by decide +kernel
theorem hk_X9_possibleIce : hChkM hi_X9_possibleIce hc_X9_possibleIce = true := by decide +kernel
theorem hk_X9_tells : hChkM hi_X9_tells hc_X9_tells = true := by decide +kernel
theorem hk_X10_dip : hChkM hi_X10_dip hc_X10_dip = true := by decide +kernel
theorem hk_X10_gust : hChkM hi_X10_gust hc_X10_gust = true := by decide +kernel
theorem hk_X10_isSo : hChkM hi_X10_isSo hc_X10_isSo = true := by decide +kernel
theorem hk_X10_mostAlike : hChkM hi_X10_mostAlike hc_X10_mostAlike = true := by decide +kernel
theorem hk_X9_ask : hChkM hi_X9_ask hc_X9_ask = true := by decide +kernel
theorem hk_X9_which : hChkM hi_X9_which hc_X9_which = true := by decide +kernel
theorem hk_X10_which : hChkM hi_X10_which hc_X10_which = true := by decide +kernel
theorem hk_X10_ask : hChkM hi_X10_ask hc_X10_ask = true := by decide +kernel
end
section
/-! The machine's states as worlds of the kit. -/
def hvv (h0 : Nat) : hV → Value
  | .inl x => .int x
  | .inr o => va_rf (o.map fun q => h0 + q.2)
theorem hvv_cat (h0 : Nat) (v : hV) : (hvv h0 v).category = 1 := by
  rcases v with x | _ | q <;> rfl
def hFs (h0 k c : Nat) (S : hS) : List Value := (List.range (hNf.getD k 0)).map fun j => if hRef k j = true then va_rf ((S.2.2 c j).map fun q => h0 + q.2) else .int (S.2.1 c j)
def hCel (h0 : Nat) (cs : ClassId × ClassId × ClassId) (k c : Nat) (S : hS) : va_E := if k < 11 then .inr (k, hFs h0 k c S) else if k < 20000 then .inl (cs.1, k % 10000, .inl (S.2.1 c)) else if k < 30000 then .inl (cs.2.1, k % 10000, .inl (S.2.1 c)) else .inl (cs.2.2, k % 10000, .inr (.inr (.inr (.inr fun j => (S.2.2 c j).map fun q => h0 + q.2))))
def hWd (h0 : Nat) (cs : ClassId × ClassId × ClassId) (S : hS) : va_W := (List.range S.1.length).map fun c => (h0 + c, hCel h0 cs (S.1.getD c 0) c S)
def hTys (cs : ClassId × ClassId × ClassId) : List (ClassId × FieldType) := [(cs.1, .int), (cs.2.1, .boolean), (cs.2.2, .object "HeldBlades$Moment")]
theorem hCel_o {h0 k c : Nat} {cs : ClassId × ClassId × ClassId} {S : hS} (h : k < 11) : hCel h0 cs k c S = .inr (k, hFs h0 k c S) := by unfold hCel; rw [if_pos h]
theorem hCel_i {h0 k c : Nat} {cs : ClassId × ClassId × ClassId} {S : hS} (h : 10000 ≤ k) (h2 : k < 20000) : hCel h0 cs k c S = .inl (cs.1, k % 10000, .inl (S.2.1 c)) := by unfold hCel; rw [if_neg (by omega), if_pos h2]
theorem hCel_z {h0 k c : Nat} {cs : ClassId × ClassId × ClassId} {S : hS} (h : 20000 ≤ k) (h2 : k < 30000) : hCel h0 cs k c S = .inl (cs.2.1, k % 10000, .inl (S.2.1 c)) := by unfold hCel; rw [if_neg (by omega), if_neg (by omega), if_pos h2]
theorem hCel_q {h0 k c : Nat} {cs : ClassId × ClassId × ClassId} {S : hS} (h : 30000 ≤ k) : hCel h0 cs k c S = .inl (cs.2.2, k % 10000, .inr (.inr (.inr (.inr fun j => (S.2.2 c j).map fun q => h0 + q.2)))) := by unfold hCel; rw [if_neg (by omega), if_neg (by omega), if_neg (by omega)]
theorem hCel_congr {h0 k c : Nat} {cs : ClassId × ClassId × ClassId} {S S' : hS} (h1 : S'.2.1 c = S.2.1 c) (h2 : S'.2.2 c = S.2.2 c) : hCel h0 cs k c S' = hCel h0 cs k c S := by
  unfold hCel hFs
  rw [h1, h2]
theorem hWd_len (h0 : Nat) (cs : ClassId × ClassId × ClassId) (S : hS) : (hWd h0 cs S).length = S.1.length := by simp [hWd]
theorem hWd_at {h0 k c : Nat} {cs : ClassId × ClassId × ClassId} {S : hS} (h : S.1[c]? = some k) : (hWd h0 cs S)[c]? = some (h0 + c, hCel h0 cs k c S) := by
  have hl : c < S.1.length := (List.getElem?_eq_some_iff.mp h).1
  have hg : S.1.getD c 0 = k := by rw [List.getD_eq_getElem?_getD, h]; rfl
  unfold hWd
  rw [List.getElem?_map, List.getElem?_range hl]
  show some (h0 + c, hCel h0 cs (S.1.getD c 0) c S) = _
  rw [hg]
theorem hWd_fst {h0 i : Nat} {cs : ClassId × ClassId × ClassId} {S : hS} {p : Nat × va_E} (h : (hWd h0 cs S)[i]? = some p) : p.1 = h0 + i ∧ i < S.1.length := by
  have hl : i < S.1.length := by rw [← hWd_len h0 cs S]; exact (List.getElem?_eq_some_iff.mp h).1
  unfold hWd at h
  rw [List.getElem?_map, List.getElem?_range hl] at h
  have h := Option.some.inj h
  rw [← h]
  exact ⟨rfl, hl⟩
theorem hWd_D (h0 : Nat) (cs : ClassId × ClassId × ClassId) (S : hS) : va_D (fun q => h0 ≤ q) (hWd h0 cs S) := by
  refine ⟨fun i j p q hi hj hpq => ?_, fun k q hk => ?_⟩
  · have h1 := (hWd_fst hi).1
    have h2 := (hWd_fst hj).1
    omega
  · have h1 := (hWd_fst hk).1
    show h0 ≤ q.1
    omega
theorem hWd_set {h0 k c : Nat} {cs : ClassId × ClassId × ClassId} {S S' : hS} (hc : S.1[c]? = some k) (h1 : S'.1 = S.1) (h2 : ∀ d, d ≠ c → S'.2.1 d = S.2.1 d) (h3 : ∀ d, d ≠ c → S'.2.2 d = S.2.2 d) : (hWd h0 cs S).set c (h0 + c, hCel h0 cs k c S') = hWd h0 cs S' := by
  apply List.ext_getElem?
  intro i
  have hl : c < S.1.length := (List.getElem?_eq_some_iff.mp hc).1
  rw [List.getElem?_set]
  by_cases hi : c = i
  · subst hi
    rw [if_pos rfl, if_pos (by rw [hWd_len]; exact hl)]
    exact (hWd_at (by rw [h1]; exact hc)).symm
  · rw [if_neg hi]
    by_cases hil : i < S.1.length
    · obtain ⟨q, hq⟩ : ∃ q, S.1[i]? = some q := ⟨_, List.getElem?_eq_getElem hil⟩
      rw [hWd_at hq, hWd_at (S := S') (by rw [h1]; exact hq), hCel_congr (h2 i (fun e => hi e.symm)) (h3 i (fun e => hi e.symm))]
    · rw [List.getElem?_eq_none (by rw [hWd_len]; omega), List.getElem?_eq_none (by rw [hWd_len, h1]; omega)]
theorem hNew_at {S : hS} {k c q : Nat} (h : S.1[c]? = some q) : (hNew S k).1[c]? = some q := by
  have hl : c < S.1.length := (List.getElem?_eq_some_iff.mp h).1
  show (S.1 ++ [k])[c]? = some q
  rw [List.getElem?_append_left hl]; exact h
theorem hNew_last (S : hS) (k : Nat) : (hNew S k).1[S.1.length]? = some k := by
  show (S.1 ++ [k])[S.1.length]? = some k
  rw [List.getElem?_append_right (Nat.le_refl _)]; simp
theorem hWd_new (h0 : Nat) (cs : ClassId × ClassId × ClassId) (S : hS) (k : Nat) : hWd h0 cs (hNew S k) = hWd h0 cs S ++ [(h0 + S.1.length, hCel h0 cs k S.1.length (hNew S k))] := by
  apply List.ext_getElem?
  intro i
  have hlen : (hNew S k).1.length = S.1.length + 1 := by show (S.1 ++ [k]).length = _; simp
  rcases Nat.lt_trichotomy i S.1.length with hi | hi | hi
  · obtain ⟨q, hq⟩ : ∃ q, S.1[i]? = some q := ⟨_, List.getElem?_eq_getElem hi⟩
    rw [List.getElem?_append_left (by rw [hWd_len]; exact hi), hWd_at hq, hWd_at (hNew_at hq), hCel_congr (va_up_ne _ _ (by omega)) (va_up_ne _ _ (by omega))]
  · subst hi
    rw [List.getElem?_append_right (by rw [hWd_len]; exact Nat.le_refl _), hWd_at (hNew_last S k), hWd_len]
    simp
  · rw [List.getElem?_eq_none (by rw [hWd_len, hlen]; omega), List.getElem?_eq_none (by simp [hWd_len]; omega)]
/-- a cell that has come lies behind the others -/
theorem hWd_fresh {h0 q : Nat} {cs : ClassId × ClassId × ClassId} {S : hS} {e : va_E} (hD : va_D (fun q => h0 ≤ q) (hWd h0 cs S ++ [(q, e)])) (hlt : q < h0 + S.1.length + 1) : q = h0 + S.1.length := by
  have hlast : (hWd h0 cs S ++ [(q, e)])[S.1.length]? = some (q, e) := by
    rw [List.getElem?_append_right (by rw [hWd_len]; exact Nat.le_refl _), hWd_len]; simp
  have hge : h0 ≤ q := hD.2 _ _ hlast
  rcases Nat.lt_or_ge q (h0 + S.1.length) with h | h
  · exfalso
    have hi : q - h0 < S.1.length := by omega
    obtain ⟨r, hr⟩ : ∃ r, S.1[q - h0]? = some r := ⟨_, List.getElem?_eq_getElem hi⟩
    have h1 : (hWd h0 cs S ++ [(q, e)])[q - h0]? = some (h0 + (q - h0), hCel h0 cs r (q - h0) S) := by
      rw [List.getElem?_append_left (by rw [hWd_len]; exact hi)]; exact hWd_at hr
    have := hD.1 _ _ _ _ h1 hlast (by show h0 + (q - h0) = q; omega)
    omega
  · omega
theorem hFs_len (h0 k c : Nat) (S : hS) : (hFs h0 k c S).length = hNf.getD k 0 := by simp [hFs]
theorem hFs_at {h0 k c j : Nat} {S : hS} (hj : j < hNf.getD k 0) : (hFs h0 k c S)[j]? = some (if hRef k j = true then va_rf ((S.2.2 c j).map fun q => h0 + q.2) else .int (S.2.1 c j)) := by
  unfold hFs
  rw [List.getElem?_map, List.getElem?_range hj]; rfl
theorem hFs_put {h0 k c j : Nat} {S : hS} {x : Int32} (hr : hRef k j = false) : (hFs h0 k c S).set j (.int x) = hFs h0 k c (hPut S c j x) := by
  apply List.ext_getElem?
  intro i
  rw [List.getElem?_set]
  by_cases hl : i < hNf.getD k 0
  · rw [hFs_at hl, hFs_at hl]
    by_cases hi : j = i
    · subst hi
      rw [if_pos rfl, if_pos (by rw [hFs_len]; exact hl), if_neg (by rw [hr]; decide)]
      show _ = some (Value.int (va_up S.2.1 c (upd (S.2.1 c) j x) c j))
      rw [va_up_self, pk_us]
    · rw [if_neg hi]
      have e1 : (hPut S c j x).2.1 c i = S.2.1 c i := by
        show va_up S.2.1 c (upd (S.2.1 c) j x) c i = _
        rw [va_up_self, pk_un (fun e => hi e.symm)]
      rw [e1]; rfl
  · have e1 : (hFs h0 k c (hPut S c j x))[i]? = none := List.getElem?_eq_none (by rw [hFs_len]; omega)
    have e2 : (hFs h0 k c S)[i]? = none := List.getElem?_eq_none (by rw [hFs_len]; omega)
    rw [e1, e2]
    by_cases hi : j = i
    · subst hi; rw [if_pos rfl, if_neg (by rw [hFs_len]; exact hl)]
    · rw [if_neg hi]
theorem hFs_putR {h0 k c j : Nat} {S : hS} {x : Nat × Nat} (hr : hRef k j = true) : (hFs h0 k c S).set j (.ref (h0 + x.2)) = hFs h0 k c (hPutR S c j x) := by
  apply List.ext_getElem?
  intro i
  rw [List.getElem?_set]
  by_cases hl : i < hNf.getD k 0
  · rw [hFs_at hl, hFs_at hl]
    by_cases hi : j = i
    · subst hi
      rw [if_pos rfl, if_pos (by rw [hFs_len]; exact hl), if_pos hr]
      have e1 : (hPutR S c j x).2.2 c j = some x := by
        show va_up S.2.2 c (va_up (S.2.2 c) j (some x)) c j = _
        rw [va_up_self, va_up_self]
      rw [e1]; rfl
    · rw [if_neg hi]
      have e1 : (hPutR S c j x).2.2 c i = S.2.2 c i := by
        show va_up S.2.2 c (va_up (S.2.2 c) j (some x)) c i = _
        rw [va_up_self, va_up_ne _ _ (fun e => hi e.symm)]
      rw [e1]; rfl
  · have e1 : (hFs h0 k c (hPutR S c j x))[i]? = none := List.getElem?_eq_none (by rw [hFs_len]; omega)
    have e2 : (hFs h0 k c S)[i]? = none := List.getElem?_eq_none (by rw [hFs_len]; omega)
    rw [e1, e2]
    by_cases hi : j = i
    · subst hi; rw [if_pos rfl, if_neg (by rw [hFs_len]; exact hl)]
    · rw [if_neg hi]
/-- the locals -/
def hLc (h0 : Nat) (ls : Array Slot) (n : Nat) (L : List (Option hV)) : Prop := ls.size = n ∧ lv_wf ls ∧ ∀ (k : Nat) (v : hV), L[k]? = some (some v) → ls[k]? = some (.val (hvv h0 v))
def hPr (h0 : Nat) (L : List (Option hV)) : List (Nat × Value) := (List.range L.length).filterMap fun k => match L[k]? with
  | some (some v) => some (k, hvv h0 v)
  | _ => none
theorem hPr_mem {h0 : Nat} {L : List (Option hV)} {q : Nat × Value} (h : q ∈ hPr h0 L) : ∃ v, L[q.1]? = some (some v) ∧ q.2 = hvv h0 v := by
  obtain ⟨k, -, hk⟩ := List.mem_filterMap.mp h
  split at hk
  · rename_i v hv
    cases hk
    exact ⟨v, hv, rfl⟩
  · cases hk
theorem hPr_of {h0 : Nat} {L : List (Option hV)} {k : Nat} {v : hV} (h : L[k]? = some (some v)) : (k, hvv h0 v) ∈ hPr h0 L := by
  refine List.mem_filterMap.mpr ⟨k, List.mem_range.mpr (List.getElem?_eq_some_iff.mp h).1, ?_⟩
  rw [h]
theorem hLc_has {h0 : Nat} {ls : Array Slot} {n : Nat} {L : List (Option hV)} (h : hLc h0 ls n L) : lv_has ls n (hPr h0 L) := ⟨h.1, h.2.1, fun q hq => by
  obtain ⟨v, h1, h2⟩ := hPr_mem hq
  rw [h2]; exact h.2.2 _ _ h1⟩
theorem hLc_set {h0 : Nat} {ls : Array Slot} {n a : Nat} {L : List (Option hV)} {v : hV} (h : lv_has ls n ((a, hvv h0 v) :: (hPr h0 L).filter (fun q => !(q.1 == a) && !(q.1 + 1 == a && q.2.category == 2)))) : hLc h0 ls n (L.set a (some v)) := by
  refine ⟨h.1, h.2.1, fun k w hk => ?_⟩
  rw [List.getElem?_set] at hk
  by_cases hka : a = k
  · subst hka
    rw [if_pos rfl] at hk
    split at hk
    · cases hk
      exact h.2.2 (a, hvv h0 v) List.mem_cons_self
    · cases hk
  · rw [if_neg hka] at hk
    refine h.2.2 (k, hvv h0 w) (List.mem_cons_of_mem _ (List.mem_filter.mpr ⟨hPr_of hk, ?_⟩))
    have e1 : (k == a) = false := by simp; exact fun e => hka e.symm
    simp [e1, hvv_cat]
theorem hArgs_mem {h0 : Nat} : ∀ (as : List hV) (i k : Nat) (v : hV), as[k]? = some v → (i + k, hvv h0 v) ∈ lv_args i (as.map (hvv h0))
  | [], i, k, v, h => by simp at h
  | a :: as, i, 0, v, h => by
    simp at h
    subst h
    exact List.mem_cons_self
  | a :: as, i, k + 1, v, h => by
    simp at h
    have := hArgs_mem (h0 := h0) as (i + 1) k v h
    show _ ∈ (i, hvv h0 a) :: lv_args (if (hvv h0 a).category = 2 then i + 2 else i + 1) (as.map (hvv h0))
    rw [hvv_cat, if_neg (by decide)]
    rw [show i + (k + 1) = i + 1 + k by omega]
    exact List.mem_cons_of_mem _ this
theorem hArgs_len (h0 : Nat) (as : List hV) : (lg_sl (as.map (hvv h0))).length = as.length := by
  induction as with
  | nil => rfl
  | cons a as ih =>
    show (List.flatMap _ (hvv h0 a :: as.map (hvv h0))).length = _
    rw [List.flatMap_cons, hvv_cat, if_neg (by decide)]
    simp only [List.length_append, List.length_cons, List.length_nil]
    unfold lg_sl at ih
    omega
theorem hLc_entry {h0 n : Nat} {as : List hV} (hn : as.length ≤ n) : hLc h0 ((lg_sl (as.map (hvv h0)) ++ List.replicate (n - (lg_sl (as.map (hvv h0))).length) Slot.unset).toArray) n (hInit n as) := by
  have h := lv_entry (as.map (hvv h0)) (n := n) (by rw [hArgs_len]; exact hn)
  refine ⟨h.1, h.2.1, fun k v hk => ?_⟩
  unfold hInit at hk
  by_cases hl : k < as.length
  · rw [List.getElem?_append_left (by simp; exact hl), List.getElem?_map] at hk
    cases ha : as[k]? with
    | none => rw [ha] at hk; cases hk
    | some w =>
      rw [ha] at hk
      cases hk
      have := h.2.2 _ (hArgs_mem (h0 := h0) as 0 k v ha)
      simpa using this
  · rw [List.getElem?_append_right (by simp; omega), List.getElem?_replicate] at hk
    split at hk <;> cases hk
end
section
/-! The machine's steps are the JVM's. -/
def hBase : List Cond := lw_tbl.filter goodWord
def hNest : Cond → Bool
  | .fieldLinkNest .. => true
  | .methodLinkNest .. => true
  | _ => false
/-- what is known of a method's body: the code, the tables' words, the classes -/
def hX (D : va_G) (cs : ClassId × ClassId × ClassId) (h0 n0 : Nat) (I : hI) (p : Program) (R : Room) (s : State) (m : MethodId) (args : Array Value) (meth : Method) (c0 : Code) : Prop :=
  (p.tables.exec = Jvm.exec ∧ c0.code = I.2.1 ∧ meth.sig.returnType = I.2.2.2.1 ∧ c0.maxLocals = I.2.2.1 ∧ s.vm.findClass I.1.cls = some m.cls ∧ (∀ w ∈ hBase, w.before args s = true) ∧ meth.locks = false ∧ meth.name = I.1.name) ∧ va_K D vwCl (hTys cs) s ∧ (∀ w ∈ lw_tbl, hNest w = true → va_Nw w s) ∧ va_AO "HeldBlades$Moment" s ∧ s.heap.size = h0 + n0 ∧ R.frames = I.2.2.2.2.1 ∧ R.locals = 40 * I.2.2.2.2.1
def hSl (K : List Nat) : Nat := (K.map fun k => if k < 11 then hNf.getD k 0 else k % 10000).sum
theorem hSl_push (K : List Nat) (k : Nat) : hSl (K ++ [k]) = hSl K + (if k < 11 then hNf.getD k 0 else k % 10000) := by simp [hSl]
/-- a place of the method's body from which the JVM comes to Q -/
def hG (D : va_G) (cs : ClassId × ClassId × ClassId) (h0 n0 z0 : Nat) (I : hI) (p : Program) (l : Launch) (e : Env) (R : Room) (s : State) (m : MethodId) (args : Array Value) (below : List Frame) (meth : Method) (c0 : Code) (Q : State → Prop) (pc : Nat) (L : List (Option hV)) (st : List hV) (S : hS) : Prop :=
  ∀ (H : Heap) (locs : List Loc) (cells slots : Nat) (ls : Array Slot), hLc h0 ls I.2.2.1 L → va_P D vwCl (hWd h0 cs S) H → va_S (fun q => h0 ≤ q) s.heap H locs → n0 + cells = S.1.length → z0 + slots = hSl S.1 → W p l e R s m args below meth c0 H locs cells slots Q (F0 m pc ls (st.map (hvv h0)))
def okv (S : hS) (v : hV) : Prop := match v with
  | .inr (some q) => S.1[q.2]? = some q.1
  | _ => True
def okS (S : hS) : Prop := ∀ (c j : Nat) (q : Nat × Nat), S.2.2 c j = some q → S.1[q.2]? = some q.1
def okF (S : hS) (L : List (Option hV)) (st : List hV) : Prop := okS S ∧ (∀ (k : Nat) (v : hV), L[k]? = some (some v) → okv S v) ∧ ∀ v ∈ st, okv S v
theorem okv_i (S : hS) (x : Int32) : okv S (.inl x) := trivial
theorem okF.push {S : hS} {L : List (Option hV)} {st : List hV} {v : hV} (h : okF S L st) (hv : okv S v) : okF S L (v :: st) := ⟨h.1, h.2.1, fun w hw => by
  rcases List.mem_cons.mp hw with rfl | hw
  · exact hv
  · exact h.2.2 w hw⟩
theorem okF.tail {S : hS} {L : List (Option hV)} {st : List hV} {v : hV} (h : okF S L (v :: st)) : okF S L st := ⟨h.1, h.2.1, fun w hw => h.2.2 w (List.mem_cons_of_mem _ hw)⟩
theorem okF.head {S : hS} {L : List (Option hV)} {st : List hV} {v : hV} (h : okF S L (v :: st)) : okv S v := h.2.2 v List.mem_cons_self
theorem okF.store {S : hS} {L : List (Option hV)} {st : List hV} {v : hV} (a : Nat) (h : okF S L st) (hv : okv S v) : okF S (L.set a (some v)) st := ⟨h.1, fun k w hw => by
  rw [List.getElem?_set] at hw
  split at hw
  · split at hw
    · cases hw; exact hv
    · cases hw
  · exact h.2.1 k w hw, h.2.2⟩
theorem okv.mono {S S' : hS} {v : hV} (hp : S.1 <+: S'.1) (h : okv S v) : okv S' v := by
  rcases v with x | _ | q
  · trivial
  · trivial
  · obtain ⟨t, ht⟩ := hp
    have h : S.1[q.2]? = some q.1 := h
    show S'.1[q.2]? = some q.1
    rw [← ht, List.getElem?_append_left (List.getElem?_eq_some_iff.mp h).1]; exact h
/-- the numbers change, the kinds and the references don't -/
theorem okF.same {S S' : hS} {L : List (Option hV)} {st : List hV} (h : okF S L st) (h1 : S'.1 = S.1) (h2 : S'.2.2 = S.2.2) : okF S' L st := by
  have hv : ∀ v, okv S v → okv S' v := fun v hv => hv.mono (by rw [h1]; exact List.prefix_refl _)
  exact ⟨fun c j q hq => by rw [h1]; exact h.1 c j q (by rw [← h2]; exact hq), fun k v hk => hv v (h.2.1 k v hk), fun v hm => hv v (h.2.2 v hm)⟩
theorem hWord {args : Array Value} {s : State} {q : Nat} {w : Cond} (hts : ∀ w ∈ hBase, w.before args s = true) (h : lw_tbl[q]? = some w) (hg : goodWord w = true) : w.before args s = true := hts w (List.mem_filter.mpr ⟨List.mem_of_getElem? h, hg⟩)
theorem h1_some {st : List hV} {f : Int32 → List hV → Option hA} {A : hA} (h : h1 st f = some A) : ∃ x r, st = .inl x :: r ∧ f x r = some A := by
  unfold h1 at h
  split at h
  · exact ⟨_, _, rfl, h⟩
  · cases h
theorem h2_some {st : List hV} {f : Int32 → Int32 → List hV → Option hA} {A : hA} (h : h2 st f = some A) : ∃ x y r, st = .inl y :: .inl x :: r ∧ f x y r = some A := by
  unfold h2 at h
  split at h
  · exact ⟨_, _, _, rfl, h⟩
  · cases h
theorem hr_some {st : List hV} {f : Nat → Nat → List hV → Option hA} {A : hA} (h : hr st f = some A) : ∃ k c r, st = .inr (some (k, c)) :: r ∧ f k c r = some A := by
  unfold hr at h
  split at h
  · exact ⟨_, _, _, rfl, h⟩
  · cases h
theorem hir_some {st : List hV} {f : Int32 → Nat → Nat → List hV → Option hA} {A : hA} (h : hir st f = some A) : ∃ i k c r, st = .inl i :: .inr (some (k, c)) :: r ∧ f i k c r = some A := by
  unfold hir at h
  split at h
  · exact ⟨_, _, _, _, rfl, h⟩
  · cases h
/-- the class numbers, their fields' words -/
def hTy (k : Nat) : Nat → FieldType := match k with
  | 0 => tyX0
  | 1 => tyX1
  | 2 => tyX2
  | 3 => tyX3
  | 4 => tyX4
  | 5 => tyX5
  | 6 => tyX6
  | 7 => tyX7
  | 8 => tyX8
  | 9 => tyX9
  | _ => tyX10
theorem hCls {a : Nat} (h : a < 11) : vwCl[a]? = some (hR a, hT a, hNf.getD a 0) ∧ (∀ w ∈ u_ws (hR a) (hT a) (hNf.getD a 0), w ∈ hBase) ∧ (∀ k, k < hNf.getD a 0 → parseFieldDescriptor (hT a k).2.2.1 = some (hTy a k)) ∧ (∀ x, x < hNf.getD a 0 → ∀ y, y < hNf.getD a 0 → x ≠ y → (hT a x).2.1 ≠ (hT a y).2.1) ∧ (∀ j, j < hNf.getD a 0 → defaultValue (hTy a j) = if hRef a j = true then .null else .int 0) ∧ Cond.instantiable (hR a) (hNf.getD a 0) ∈ hBase ∧ Cond.initialized (hR a) ∈ hBase := by
  have good : ∀ {C : String} {T : u_T} {N : Nat}, (∀ w ∈ u_ws C T N, w ∈ lw_tbl) → (u_ws C T N).all goodWord = true → ∀ w ∈ u_ws C T N, w ∈ hBase := fun h1 h2 w hw => List.mem_filter.mpr ⟨h1 w hw, List.all_eq_true.mp h2 w hw⟩
  match a, h with
  | 0, _ => exact ⟨rfl, good hin_X0 (by decide +kernel), tyX0_ok, nmX0, by decide +kernel, by decide +kernel, by decide +kernel⟩
  | 1, _ => exact ⟨rfl, good hin_X1 (by decide +kernel), tyX1_ok, nmX1, by decide +kernel, by decide +kernel, by decide +kernel⟩
  | 2, _ => exact ⟨rfl, good hin_X2 (by decide +kernel), tyX2_ok, nmX2, by decide +kernel, by decide +kernel, by decide +kernel⟩
  | 3, _ => exact ⟨rfl, good hin_X3 (by decide +kernel), tyX3_ok, nmX3, by decide +kernel, by decide +kernel, by decide +kernel⟩
  | 4, _ => exact ⟨rfl, good hin_X4 (by decide +kernel), tyX4_ok, nmX4, by decide +kernel, by decide +kernel, by decide +kernel⟩
  | 5, _ => exact ⟨rfl, good hin_X5 (by decide +kernel), tyX5_ok, nmX5, by decide +kernel, by decide +kernel, by decide +kernel⟩
  | 6, _ => exact ⟨rfl, good hin_X6 (by decide +kernel), tyX6_ok, nmX6, by decide +kernel, by decide +kernel, by decide +kernel⟩
  | 7, _ => exact ⟨rfl, good hin_X7 (by decide +kernel), tyX7_ok, nmX7, by decide +kernel, by decide +kernel, by decide +kernel⟩
  | 8, _ => exact ⟨rfl, good hin_X8 (by decide +kernel), tyX8_ok, nmX8, by decide +kernel, by decide +kernel, by decide +kernel⟩
  | 9, _ => exact ⟨rfl, good hin_X9 (by decide +kernel), tyX9_ok, nmX9, by decide +kernel, by decide +kernel, by decide +kernel⟩
  | 10, _ => exact ⟨rfl, good hin_X10 (by decide +kernel), tyX10_ok, nmX10, by decide +kernel, by decide +kernel, by decide +kernel⟩
  | n + 11, h => exact absurd h (by omega)
theorem hB_nar {x : Int32} (h : x = 0 ∨ x = 1) : narrow .boolean (.int x) = .int x ∧ fits .boolean (.int x) = true ∧ vp_nar .boolean x = x := by
  rcases h with rfl | rfl <;> exact ⟨by decide, by decide, by decide⟩
end
section
/-! What one step of the machine is on the JVM. -/
theorem hSum (h0 : Nat) (r : List hV) : ((r.map (hvv h0)).map fun v => v.category).sum = r.length := by
  induction r with
  | nil => rfl
  | cons a r ih =>
    show (hvv h0 a).category + ((r.map (hvv h0)).map fun v => v.category).sum = r.length + 1
    rw [ih, hvv_cat]; omega
theorem hWd_o {h0 a c : Nat} {cs : ClassId × ClassId × ClassId} {S : hS} (h : S.1[c]? = some a) (ha : a < 11) : (hWd h0 cs S)[c]? = some (h0 + c, .inr (a, hFs h0 a c S)) := by rw [hWd_at h, hCel_o ha]
theorem hWd_i {h0 a c : Nat} {cs : ClassId × ClassId × ClassId} {S : hS} (h : S.1[c]? = some a) (h1 : 10000 ≤ a) (h2 : a < 20000) : (hWd h0 cs S)[c]? = some (h0 + c, .inl (cs.1, a % 10000, .inl (S.2.1 c))) := by rw [hWd_at h, hCel_i h1 h2]
theorem hWd_z {h0 a c : Nat} {cs : ClassId × ClassId × ClassId} {S : hS} (h : S.1[c]? = some a) (h1 : 20000 ≤ a) (h2 : a < 30000) : (hWd h0 cs S)[c]? = some (h0 + c, .inl (cs.2.1, a % 10000, .inl (S.2.1 c))) := by rw [hWd_at h, hCel_z h1 h2]
theorem hWd_q {h0 a c : Nat} {cs : ClassId × ClassId × ClassId} {S : hS} (h : S.1[c]? = some a) (h1 : 30000 ≤ a) : (hWd h0 cs S)[c]? = some (h0 + c, .inl (cs.2.2, a % 10000, .inr (.inr (.inr (.inr fun j => (S.2.2 c j).map fun q => h0 + q.2))))) := by rw [hWd_at h, hCel_q h1]
theorem hPut_ne {S : hS} {c k d : Nat} {x : Int32} (h : d ≠ c) : (hPut S c k x).2.1 d = S.2.1 d := va_up_ne _ _ h
theorem hPut_at {S : hS} {c k : Nat} {x : Int32} : (hPut S c k x).2.1 c = upd (S.2.1 c) k x := va_up_self _ _ _
theorem hPutR_ne {S : hS} {c k d : Nat} {x : Nat × Nat} (h : d ≠ c) : (hPutR S c k x).2.2 d = S.2.2 d := va_up_ne _ _ h
theorem hPutR_at {S : hS} {c k : Nat} {x : Nat × Nat} : (hPutR S c k x).2.2 c = va_up (S.2.2 c) k (some x) := va_up_self _ _ _
theorem hWd_put {h0 a c b : Nat} {cs : ClassId × ClassId × ClassId} {S : hS} {x : Int32} (h : S.1[c]? = some a) (ha : a < 11) (hr : hRef a b = false) : (hWd h0 cs S).set c (h0 + c, .inr (a, (hFs h0 a c S).set b (.int x))) = hWd h0 cs (hPut S c b x) := by
  rw [hFs_put hr, ← hCel_o (cs := cs) ha]
  exact hWd_set h rfl (fun d hd => hPut_ne hd) (fun d hd => rfl)
theorem hWd_putR {h0 a c b : Nat} {cs : ClassId × ClassId × ClassId} {S : hS} {x : Nat × Nat} (h : S.1[c]? = some a) (ha : a < 11) (hr : hRef a b = true) : (hWd h0 cs S).set c (h0 + c, .inr (a, (hFs h0 a c S).set b (.ref (h0 + x.2)))) = hWd h0 cs (hPutR S c b x) := by
  rw [hFs_putR hr, ← hCel_o (cs := cs) ha]
  exact hWd_set h rfl (fun d hd => rfl) (fun d hd => hPutR_ne hd)
theorem hWd_iast {h0 a c j : Nat} {cs : ClassId × ClassId × ClassId} {S : hS} {x : Int32} (h : S.1[c]? = some a) (h1 : 10000 ≤ a) (h2 : a < 20000) : (hWd h0 cs S).set c (h0 + c, .inl (cs.1, a % 10000, .inl (upd (S.2.1 c) j x))) = hWd h0 cs (hPut S c j x) := by
  rw [← hPut_at, ← hCel_i (h0 := h0) (c := c) (cs := cs) (S := hPut S c j x) h1 h2]
  exact hWd_set h rfl (fun d hd => hPut_ne hd) (fun d hd => rfl)
theorem hWd_zast {h0 a c j : Nat} {cs : ClassId × ClassId × ClassId} {S : hS} {x : Int32} (h : S.1[c]? = some a) (h1 : 20000 ≤ a) (h2 : a < 30000) : (hWd h0 cs S).set c (h0 + c, .inl (cs.2.1, a % 10000, .inl (upd (S.2.1 c) j x))) = hWd h0 cs (hPut S c j x) := by
  rw [← hPut_at, ← hCel_z (h0 := h0) (c := c) (cs := cs) (S := hPut S c j x) h1 h2]
  exact hWd_set h rfl (fun d hd => hPut_ne hd) (fun d hd => rfl)
theorem hWd_qast {h0 a c j : Nat} {cs : ClassId × ClassId × ClassId} {S : hS} {x : Nat × Nat} (h : S.1[c]? = some a) (h1 : 30000 ≤ a) : (hWd h0 cs S).set c (h0 + c, .inl (cs.2.2, a % 10000, .inr (.inr (.inr (.inr (va_up (fun j => (S.2.2 c j).map fun q => h0 + q.2) j (some (h0 + x.2)))))))) = hWd h0 cs (hPutR S c j x) := by
  have e : (va_up (fun j => (S.2.2 c j).map fun q => h0 + q.2) j (some (h0 + x.2))) = fun j' => ((hPutR S c j x).2.2 c j').map fun q => h0 + q.2 := by
    funext j'
    rw [hPutR_at]
    by_cases hj : j' = j
    · subst hj; rw [va_up_self, va_up_self]; rfl
    · rw [va_up_ne _ _ hj, va_up_ne _ _ hj]
  rw [e, ← hCel_q (h0 := h0) (c := c) (cs := cs) (S := hPutR S c j x) h1]
  exact hWd_set h rfl (fun d hd => rfl) (fun d hd => hPutR_ne hd)
theorem hWd_cpy {h0 a c : Nat} {cs : ClassId × ClassId × ClassId} {S : hS} {f : Nat → Int32} (h : S.1[c]? = some a) (h1 : 10000 ≤ a) (h2 : a < 20000) : (hWd h0 cs S).set c (h0 + c, .inl (cs.1, a % 10000, .inl f)) = hWd h0 cs (S.1, va_up S.2.1 c f, S.2.2) := by
  have e : f = (S.1, va_up S.2.1 c f, S.2.2).2.1 c := (va_up_self _ _ _).symm
  rw [show (.inl (cs.1, a % 10000, .inl f) : va_E) = hCel h0 cs a c (S.1, va_up S.2.1 c f, S.2.2) by rw [hCel_i h1 h2, ← e]]
  exact hWd_set h rfl (fun d hd => va_up_ne _ _ hd) (fun d hd => rfl)
theorem hLs_nn (pc : Nat) : ∀ (l : List (Int × Int)) (d x : Int), 0 ≤ (pc : Int) + d → (∀ o ∈ l, 0 ≤ (pc : Int) + o.2) → 0 ≤ (pc : Int) + Op.lookupswitch.offset l d x
  | [], d, x, hd, _ => by simpa [Op.lookupswitch.offset] using hd
  | (a, o) :: r, d, x, hd, h => by
    have h1 := hLs_nn pc r d x hd (fun o ho => h o (List.mem_cons_of_mem _ ho))
    have h2 := h (a, o) List.mem_cons_self
    show 0 ≤ (pc : Int) + (if a = x then o else Op.lookupswitch.offset r d x)
    split
    · exact h2
    · exact h1
theorem hLastLt {D : va_G} {cl : List vw_C} {ws : va_W} {q : Nat} {e : va_E} {H : Heap} (h : va_P D cl (ws ++ [(q, e)]) H) : q < H.size := (h ws.length (q, e) (by simp)).lt
theorem hPre (S : hS) (k : Nat) : S.1 <+: (hNew S k).1 := ⟨[k], rfl⟩
theorem okF.new {S : hS} {L : List (Option hV)} {st : List hV} (h : okF S L st) (k : Nat) : okF (hNew S k) L (.inr (some (k, S.1.length)) :: st) := by
  refine okF.push ⟨fun c j q hq => ?_, fun i v hi => (h.2.1 i v hi).mono (hPre S k), fun v hm => (h.2.2 v hm).mono (hPre S k)⟩ (hNew_last S k)
  have hq : va_up S.2.2 S.1.length (fun _ => none) c j = some q := hq
  by_cases hc : c = S.1.length
  · subst hc; rw [va_up_self] at hq; cases hq
  · rw [va_up_ne _ _ hc] at hq; exact hNew_at (h.1 c j q hq)
theorem okF.putR {S : hS} {L : List (Option hV)} {st : List hV} {c k : Nat} {x : Nat × Nat} (h : okF S L st) (hx : S.1[x.2]? = some x.1) : okF (hPutR S c k x) L st := by
  refine ⟨fun c' j q hq => ?_, h.2.1, h.2.2⟩
  have hq : va_up S.2.2 c (va_up (S.2.2 c) k (some x)) c' j = some q := hq
  show S.1[q.2]? = some q.1
  by_cases hc : c' = c
  · subst hc
    rw [va_up_self] at hq
    by_cases hj : j = k
    · subst hj; rw [va_up_self] at hq; cases hq; exact hx
    · rw [va_up_ne _ _ hj] at hq; exact h.1 _ _ _ hq
  · rw [va_up_ne _ _ hc] at hq; exact h.1 _ _ _ hq
theorem hSize {p : Program} {l : Launch} {e : Env} {R : Room} {s : State} {m : MethodId} {args : Array Value} {below : List Frame} {meth : Method} {c : Code} {H : Heap} {locs : List Loc} {cells slots : Nat} {Q : State → Prop} {g : JFrame} (k : H.size ≤ s.heap.size + cells → W p l e R s m args below meth c H locs cells slots Q g) : W p l e R s m args below meth c H locs cells slots Q g := fun T hT X => k (by rw [← hT]; exact X.heapSize) T hT X
set_option maxHeartbeats 4000000 in
set_option maxRecDepth 100000 in
theorem hStep {D : va_G} {cs : ClassId × ClassId × ClassId} {h0 n0 z0 : Nat} {I : hI} {p : Program} {l : Launch} {e : Env} {R : Room} {s : State} {m : MethodId} {args : Array Value} {below : List Frame} {meth : Method} {c0 : Code} {Q : State → Prop} {E : hE} {L : List (Option hV)} {st : List hV} {S : hS} {pc' : Nat} {L' : List (Option hV)} {st' : List hV} {S1 : hS} (hx : hX D cs h0 n0 I p R s m args meth c0) (hc : hChkE I E = true) (ha : hAct E L st S = some (.inl (pc', L', st', S1))) (ok : okF S L st) :
    okF S1 L' st' ∧ S.1 <+: S1.1 ∧ (S1.1.length ≤ n0 + R.cells → hSl S1.1 ≤ z0 + R.slots → hG D cs h0 n0 z0 I p l e R s m args below meth c0 Q pc' L' st' S1 → hG D cs h0 n0 z0 I p l e R s m args below meth c0 Q E.1 L st S) := by
  obtain ⟨pc, i, nx, a, b, d, q, v⟩ := E
  simp only [hChkE, Bool.and_eq_true, decide_eq_true_eq] at hc
  obtain ⟨hd, hc⟩ := hc
  try dsimp only at hd
  obtain ⟨⟨hx1, hb, hret, hml, hown, hts, hlk, hnm⟩, hK, hN, hAO, hsz, hfr, hlo⟩ := hx
  have hA : ∀ q : Nat, s.heap.size ≤ q → (fun q => h0 ≤ q) q := fun q hq => by show h0 ≤ q; omega
  cases i with
  | iconst n => 
    simp only [hChkI, Bool.and_eq_true, decide_eq_true_eq] at hc
    obtain ⟨h1, rfl⟩ := hc
    rw [Nat.add_sub_cancel_left] at hd
    dsimp only [hAct] at ha
    cases ha
    exact ⟨ok.push trivial, List.prefix_refl _, fun _ _ k H locs cells slots ls hl hP hS hn hz => lv_iconst hx1 hb hd h1 (k H locs cells slots ls hl hP hS hn hz)⟩
  | bipush n => 
    simp only [hChkI, Bool.and_eq_true, decide_eq_true_eq] at hc
    obtain ⟨h1, rfl⟩ := hc
    rw [Nat.add_sub_cancel_left] at hd
    dsimp only [hAct] at ha
    cases ha
    exact ⟨ok.push trivial, List.prefix_refl _, fun _ _ k H locs cells slots ls hl hP hS hn hz => lv_bipush hx1 hb hd h1 (k H locs cells slots ls hl hP hS hn hz)⟩
  | sipush n => 
    simp only [hChkI, Bool.and_eq_true, decide_eq_true_eq] at hc
    obtain ⟨h1, rfl⟩ := hc
    rw [Nat.add_sub_cancel_left] at hd
    dsimp only [hAct] at ha
    cases ha
    exact ⟨ok.push trivial, List.prefix_refl _, fun _ _ k H locs cells slots ls hl hP hS hn hz => lv_sipush hx1 hb hd h1 (k H locs cells slots ls hl hP hS hn hz)⟩
  | ldc n => 
    simp only [hChkI, Bool.and_eq_true, decide_eq_true_eq] at hc
    obtain ⟨h1, rfl⟩ := hc
    rw [Nat.add_sub_cancel_left] at hd
    dsimp only [hAct] at ha
    cases ha
    exact ⟨ok.push trivial, List.prefix_refl _, fun _ _ k H locs cells slots ls hl hP hS hn hz => lv_ldc hx1 hb hown (hWord hts h1 rfl) hd (k H locs cells slots ls hl hP hS hn hz)⟩
  | ldc_w n => 
    simp only [hChkI, Bool.and_eq_true, decide_eq_true_eq] at hc
    obtain ⟨h1, rfl⟩ := hc
    rw [Nat.add_sub_cancel_left] at hd
    dsimp only [hAct] at ha
    cases ha
    exact ⟨ok.push trivial, List.prefix_refl _, fun _ _ k H locs cells slots ls hl hP hS hn hz => lv_ldcw hx1 hb hown (hWord hts h1 rfl) hd (k H locs cells slots ls hl hP hS hn hz)⟩
  | iload_n k => 
    simp only [hChkI, Bool.and_eq_true, decide_eq_true_eq] at hc
    obtain ⟨rfl, rfl⟩ := hc
    rw [Nat.add_sub_cancel_left] at hd
    dsimp only [hAct] at ha
    split at ha
    · rename_i x hxL
      cases ha
      exact ⟨ok.push trivial, List.prefix_refl _, fun _ _ k H locs cells slots ls hl hP hS hn hz => lv_iload_n hx1 hb hd rfl (hl.2.2 _ _ hxL) (k H locs cells slots ls hl hP hS hn hz)⟩
    · cases ha
  | iload k => 
    simp only [hChkI, Bool.and_eq_true, decide_eq_true_eq] at hc
    obtain ⟨rfl, rfl⟩ := hc
    rw [Nat.add_sub_cancel_left] at hd
    dsimp only [hAct] at ha
    split at ha
    · rename_i x hxL
      cases ha
      exact ⟨ok.push trivial, List.prefix_refl _, fun _ _ k H locs cells slots ls hl hP hS hn hz => lv_iload hx1 hb hd (hl.2.2 _ _ hxL) (k H locs cells slots ls hl hP hS hn hz)⟩
    · cases ha
  | aload_n k => 
    simp only [hChkI, Bool.and_eq_true, decide_eq_true_eq] at hc
    obtain ⟨rfl, rfl⟩ := hc
    rw [Nat.add_sub_cancel_left] at hd
    dsimp only [hAct] at ha
    split at ha
    · rename_i x hxL
      cases ha
      exact ⟨ok.push (ok.2.1 _ _ hxL), List.prefix_refl _, fun _ _ k H locs cells slots ls hl hP hS hn hz => lv_aload_n hx1 hb hd rfl (hl.2.2 _ _ hxL) (k H locs cells slots ls hl hP hS hn hz)⟩
    · cases ha
  | istore_n k => 
    simp only [hChkI, Bool.and_eq_true, decide_eq_true_eq] at hc
    obtain ⟨⟨rfl, rfl⟩, h3⟩ := hc
    rw [Nat.add_sub_cancel_left] at hd
    dsimp only [hAct] at ha
    split at ha
    · rename_i x r
      cases ha
      exact ⟨ok.tail.store _ ok.head, List.prefix_refl _, fun _ _ k H locs cells slots ls hl hP hS hn hz => lv_istore_n hx1 hb hd rfl (hLc_has hl) h3 rfl (fun ls1 hl1 => k H locs cells slots ls1 (hLc_set (v := .inl x) hl1) hP hS hn hz)⟩
    · cases ha
  | istore k => 
    simp only [hChkI, Bool.and_eq_true, decide_eq_true_eq] at hc
    obtain ⟨⟨rfl, rfl⟩, h3⟩ := hc
    rw [Nat.add_sub_cancel_left] at hd
    dsimp only [hAct] at ha
    split at ha
    · rename_i x r
      cases ha
      exact ⟨ok.tail.store _ ok.head, List.prefix_refl _, fun _ _ k H locs cells slots ls hl hP hS hn hz => lv_istore hx1 hb hd (hLc_has hl) h3 rfl (fun ls1 hl1 => k H locs cells slots ls1 (hLc_set (v := .inl x) hl1) hP hS hn hz)⟩
    · cases ha
  | astore_n k => 
    simp only [hChkI, Bool.and_eq_true, decide_eq_true_eq] at hc
    obtain ⟨⟨rfl, rfl⟩, h3⟩ := hc
    rw [Nat.add_sub_cancel_left] at hd
    dsimp only [hAct] at ha
    split at ha
    · rename_i x r
      cases ha
      exact ⟨ok.tail.store _ ok.head, List.prefix_refl _, fun _ _ k H locs cells slots ls hl hP hS hn hz => lv_astore_n hx1 hb hd rfl (hLc_has hl) h3 rfl (fun ls1 hl1 => k H locs cells slots ls1 (hLc_set (v := .inr (some x)) hl1) hP hS hn hz)⟩
    · cases ha
  | iinc k n => 
    simp only [hChkI, Bool.and_eq_true, decide_eq_true_eq] at hc
    obtain ⟨⟨⟨rfl, h1⟩, rfl⟩, h3⟩ := hc
    rw [Nat.add_sub_cancel_left] at hd
    dsimp only [hAct] at ha
    split at ha
    · rename_i x hxL
      cases ha
      refine ⟨ok.store _ trivial, List.prefix_refl _, fun _ _ kk H locs cells slots ls hl hP hS hn hz => ?_⟩
      obtain ⟨j, hj⟩ := List.getElem?_of_mem (hPr_of (h0 := h0) hxL)
      exact lv_iinc (x := x) (v := x + v) hx1 hb hd (hLc_has hl) hj (by rw [h1]) h3 rfl (fun ls1 hl1 => kk H locs cells slots ls1 (hLc_set (v := .inl (x + v)) hl1) hP hS hn hz)
    · cases ha
  | iadd => 
    simp only [hChkI, Bool.and_eq_true, decide_eq_true_eq] at hc
    subst hc
    rw [Nat.add_sub_cancel_left] at hd
    dsimp only [hAct] at ha
    obtain ⟨x, y, r, rfl, ha9⟩ := h2_some ha
    clear ha
    have ha := ha9
    clear ha9
    cases ha
    exact ⟨ok.tail.tail.push trivial, List.prefix_refl _, fun _ _ k H locs cells slots ls hl hP hS hn hz => lv_iadd hx1 hb hd (k H locs cells slots ls hl hP hS hn hz)⟩
  | isub => 
    simp only [hChkI, Bool.and_eq_true, decide_eq_true_eq] at hc
    subst hc
    rw [Nat.add_sub_cancel_left] at hd
    dsimp only [hAct] at ha
    obtain ⟨x, y, r, rfl, ha9⟩ := h2_some ha
    clear ha
    have ha := ha9
    clear ha9
    cases ha
    exact ⟨ok.tail.tail.push trivial, List.prefix_refl _, fun _ _ k H locs cells slots ls hl hP hS hn hz => lv_isub hx1 hb hd (k H locs cells slots ls hl hP hS hn hz)⟩
  | imul => 
    simp only [hChkI, Bool.and_eq_true, decide_eq_true_eq] at hc
    subst hc
    rw [Nat.add_sub_cancel_left] at hd
    dsimp only [hAct] at ha
    obtain ⟨x, y, r, rfl, ha9⟩ := h2_some ha
    clear ha
    have ha := ha9
    clear ha9
    cases ha
    exact ⟨ok.tail.tail.push trivial, List.prefix_refl _, fun _ _ k H locs cells slots ls hl hP hS hn hz => lv_imul hx1 hb hd (k H locs cells slots ls hl hP hS hn hz)⟩
  | iand => 
    simp only [hChkI, Bool.and_eq_true, decide_eq_true_eq] at hc
    subst hc
    rw [Nat.add_sub_cancel_left] at hd
    dsimp only [hAct] at ha
    obtain ⟨x, y, r, rfl, ha9⟩ := h2_some ha
    clear ha
    have ha := ha9
    clear ha9
    cases ha
    exact ⟨ok.tail.tail.push trivial, List.prefix_refl _, fun _ _ k H locs cells slots ls hl hP hS hn hz => lv_iand hx1 hb hd (k H locs cells slots ls hl hP hS hn hz)⟩
  | ior => 
    simp only [hChkI, Bool.and_eq_true, decide_eq_true_eq] at hc
    subst hc
    rw [Nat.add_sub_cancel_left] at hd
    dsimp only [hAct] at ha
    obtain ⟨x, y, r, rfl, ha9⟩ := h2_some ha
    clear ha
    have ha := ha9
    clear ha9
    cases ha
    exact ⟨ok.tail.tail.push trivial, List.prefix_refl _, fun _ _ k H locs cells slots ls hl hP hS hn hz => lv_ior hx1 hb hd (k H locs cells slots ls hl hP hS hn hz)⟩
  | ixor => 
    simp only [hChkI, Bool.and_eq_true, decide_eq_true_eq] at hc
    subst hc
    rw [Nat.add_sub_cancel_left] at hd
    dsimp only [hAct] at ha
    obtain ⟨x, y, r, rfl, ha9⟩ := h2_some ha
    clear ha
    have ha := ha9
    clear ha9
    cases ha
    exact ⟨ok.tail.tail.push trivial, List.prefix_refl _, fun _ _ k H locs cells slots ls hl hP hS hn hz => lv_ixor hx1 hb hd (k H locs cells slots ls hl hP hS hn hz)⟩
  | ishl => 
    simp only [hChkI, Bool.and_eq_true, decide_eq_true_eq] at hc
    subst hc
    rw [Nat.add_sub_cancel_left] at hd
    dsimp only [hAct] at ha
    obtain ⟨x, y, r, rfl, ha9⟩ := h2_some ha
    clear ha
    have ha := ha9
    clear ha9
    cases ha
    exact ⟨ok.tail.tail.push trivial, List.prefix_refl _, fun _ _ k H locs cells slots ls hl hP hS hn hz => lv_ishl hx1 hb hd (k H locs cells slots ls hl hP hS hn hz)⟩
  | ishr => 
    simp only [hChkI, Bool.and_eq_true, decide_eq_true_eq] at hc
    subst hc
    rw [Nat.add_sub_cancel_left] at hd
    dsimp only [hAct] at ha
    obtain ⟨x, y, r, rfl, ha9⟩ := h2_some ha
    clear ha
    have ha := ha9
    clear ha9
    cases ha
    exact ⟨ok.tail.tail.push trivial, List.prefix_refl _, fun _ _ k H locs cells slots ls hl hP hS hn hz => lv_ishr hx1 hb hd (k H locs cells slots ls hl hP hS hn hz)⟩
  | iushr => 
    simp only [hChkI, Bool.and_eq_true, decide_eq_true_eq] at hc
    subst hc
    rw [Nat.add_sub_cancel_left] at hd
    dsimp only [hAct] at ha
    obtain ⟨x, y, r, rfl, ha9⟩ := h2_some ha
    clear ha
    have ha := ha9
    clear ha9
    cases ha
    exact ⟨ok.tail.tail.push trivial, List.prefix_refl _, fun _ _ k H locs cells slots ls hl hP hS hn hz => lv_iushr hx1 hb hd rfl (k H locs cells slots ls hl hP hS hn hz)⟩
  | ineg => 
    simp only [hChkI, Bool.and_eq_true, decide_eq_true_eq] at hc
    subst hc
    rw [Nat.add_sub_cancel_left] at hd
    dsimp only [hAct] at ha
    obtain ⟨x, r, rfl, ha9⟩ := h1_some ha
    clear ha
    have ha := ha9
    clear ha9
    cases ha
    exact ⟨ok.tail.push trivial, List.prefix_refl _, fun _ _ k H locs cells slots ls hl hP hS hn hz => lv_ineg hx1 hb hd (k H locs cells slots ls hl hP hS hn hz)⟩
  | idiv => 
    simp only [hChkI, Bool.and_eq_true, decide_eq_true_eq] at hc
    subst hc
    rw [Nat.add_sub_cancel_left] at hd
    dsimp only [hAct] at ha
    obtain ⟨x, y, r, rfl, ha9⟩ := h2_some ha
    clear ha
    have ha := ha9
    clear ha9
    split at ha
    · cases ha
    · rename_i hy
      cases ha
      exact ⟨ok.tail.tail.push trivial, List.prefix_refl _, fun _ _ k H locs cells slots ls hl hP hS hn hz => lv_idiv hx1 hb hd hy (k H locs cells slots ls hl hP hS hn hz)⟩
  | irem => 
    simp only [hChkI, Bool.and_eq_true, decide_eq_true_eq] at hc
    subst hc
    rw [Nat.add_sub_cancel_left] at hd
    dsimp only [hAct] at ha
    obtain ⟨x, y, r, rfl, ha9⟩ := h2_some ha
    clear ha
    have ha := ha9
    clear ha9
    split at ha
    · cases ha
    · rename_i hy
      cases ha
      exact ⟨ok.tail.tail.push trivial, List.prefix_refl _, fun _ _ k H locs cells slots ls hl hP hS hn hz => lv_irem hx1 hb hd hy (k H locs cells slots ls hl hP hS hn hz)⟩
  | dup => 
    simp only [hChkI, Bool.and_eq_true, decide_eq_true_eq] at hc
    subst hc
    rw [Nat.add_sub_cancel_left] at hd
    dsimp only [hAct] at ha
    split at ha
    · rename_i x r
      cases ha
      exact ⟨ok.push ok.head, List.prefix_refl _, fun _ _ k H locs cells slots ls hl hP hS hn hz => lv_dup hx1 hb hd (hvv_cat _ _) (k H locs cells slots ls hl hP hS hn hz)⟩
    · cases ha
  | dup2 => 
    simp only [hChkI, Bool.and_eq_true, decide_eq_true_eq] at hc
    subst hc
    rw [Nat.add_sub_cancel_left] at hd
    dsimp only [hAct] at ha
    split at ha
    · rename_i x y r
      cases ha
      exact ⟨(ok.push ok.tail.head).push ok.head, List.prefix_refl _, fun _ _ k H locs cells slots ls hl hP hS hn hz => lv_dup2_11 hx1 hb hd (hvv_cat _ _) (hvv_cat _ _) (k H locs cells slots ls hl hP hS hn hz)⟩
    · cases ha
  | if_icmp cc off => 
    simp only [hChkI, Bool.and_eq_true, decide_eq_true_eq] at hc
    obtain ⟨h1, rfl⟩ := hc
    rw [Nat.add_sub_cancel_left] at hd
    dsimp only [hAct] at ha
    obtain ⟨x, y, r, rfl, ha9⟩ := h2_some ha
    clear ha
    have ha := ha9
    clear ha9
    cases ha
    refine ⟨ok.tail.tail, List.prefix_refl _, fun _ _ k H locs cells slots ls hl hP hS hn hz => ?_⟩
    have k := k H locs cells slots ls hl hP hS hn hz
    unfold hIf at k
    cases cc with
    | eq => exact lv_icmp_eq hx1 hb hd h1 (fun h => by rw [if_pos h] at k; exact k) (fun h => by rw [if_neg h] at k; exact k)
    | ne => exact lv_icmp_ne hx1 hb hd h1 (fun h => by rw [if_pos h] at k; exact k) (fun h => by rw [if_neg (show ¬ ¬ x = y from fun g => g h)] at k; exact k)
    | lt => exact lv_icmp_lt hx1 hb hd h1 (fun h => by rw [if_pos h] at k; exact k) (fun h => by rw [if_neg h] at k; exact k)
    | ge => exact lv_icmp_ge hx1 hb hd h1 (fun h => by rw [if_pos h] at k; exact k) (fun h => by rw [if_neg h] at k; exact k)
    | gt => exact lv_icmp_gt hx1 hb hd h1 (fun h => by rw [if_pos h] at k; exact k) (fun h => by rw [if_neg h] at k; exact k)
    | le => exact lv_icmp_le hx1 hb hd h1 (fun h => by rw [if_pos h] at k; exact k) (fun h => by rw [if_neg h] at k; exact k)
  | ifCond cc off => 
    simp only [hChkI, Bool.and_eq_true, decide_eq_true_eq] at hc
    obtain ⟨h1, rfl⟩ := hc
    rw [Nat.add_sub_cancel_left] at hd
    dsimp only [hAct] at ha
    obtain ⟨x, r, rfl, ha9⟩ := h1_some ha
    clear ha
    have ha := ha9
    clear ha9
    cases ha
    refine ⟨ok.tail, List.prefix_refl _, fun _ _ k H locs cells slots ls hl hP hS hn hz => ?_⟩
    have k := k H locs cells slots ls hl hP hS hn hz
    unfold hIf at k
    cases cc with
    | eq => exact lv_if_eq hx1 hb hd h1 (fun h => by rw [if_pos h] at k; exact k) (fun h => by rw [if_neg h] at k; exact k)
    | ne => exact lv_if_ne hx1 hb hd h1 (fun h => by rw [if_pos h] at k; exact k) (fun h => by rw [if_neg (show ¬ ¬ x = 0 from fun g => g h)] at k; exact k)
    | lt => exact lv_if_lt hx1 hb hd h1 (fun h => by rw [if_pos h] at k; exact k) (fun h => by rw [if_neg h] at k; exact k)
    | ge => exact lv_if_ge hx1 hb hd h1 (fun h => by rw [if_pos h] at k; exact k) (fun h => by rw [if_neg h] at k; exact k)
    | gt => exact lv_if_gt hx1 hb hd h1 (fun h => by rw [if_pos h] at k; exact k) (fun h => by rw [if_neg h] at k; exact k)
    | le => exact lv_if_le hx1 hb hd h1 (fun h => by rw [if_pos h] at k; exact k) (fun h => by rw [if_neg h] at k; exact k)
  | goto off => 
    simp only [hChkI, Bool.and_eq_true, decide_eq_true_eq] at hc
    obtain ⟨h1, rfl⟩ := hc
    rw [Nat.add_sub_cancel_left] at hd
    dsimp only [hAct] at ha
    cases ha
    exact ⟨ok, List.prefix_refl _, fun _ _ k H locs cells slots ls hl hP hS hn hz => lv_goto hx1 hb hd h1 (k H locs cells slots ls hl hP hS hn hz)⟩
  | tableswitch dd lo hi offs => 
    simp only [hChkI, Bool.and_eq_true, decide_eq_true_eq, Array.all_eq_true] at hc
    obtain ⟨⟨g1, g2⟩, g3⟩ := hc
    dsimp only [hAct] at ha
    obtain ⟨x, r, rfl, ha9⟩ := h1_some ha
    clear ha
    have ha := ha9
    clear ha9
    cases ha
    refine ⟨ok.tail, List.prefix_refl _, fun _ _ k H locs cells slots ls hl hP hS hn hz => ?_⟩
    have k := k H locs cells slots ls hl hP hS hn hz
    unfold hTs at k
    by_cases hh : x.toInt < lo ∨ hi < x.toInt
    · rw [if_pos hh] at k
      exact lv_tableOut hx1 hb hd hh (Int.toNat_of_nonneg g2).symm k
    · rw [if_neg hh] at k
      have hlt : (x.toInt - lo).toNat < offs.size := by omega
      rw [Array.getElem?_eq_getElem hlt] at k
      have h5 := g3 _ hlt
      exact lv_tableIn hx1 hb hd (fun h => hh (Or.inl h)) (fun h => hh (Or.inr h)) (Array.getElem?_eq_getElem hlt) (Int.toNat_of_nonneg h5).symm k
  | lookupswitch dd ps => 
    simp only [hChkI, Bool.and_eq_true, decide_eq_true_eq] at hc
    obtain ⟨⟨g1, g2⟩, g3⟩ := hc
    dsimp only [hAct] at ha
    obtain ⟨x, r, rfl, ha9⟩ := h1_some ha
    clear ha
    have ha := ha9
    clear ha9
    cases ha
    refine ⟨ok.tail, List.prefix_refl _, fun _ _ k H locs cells slots ls hl hP hS hn hz => ?_⟩
    have k := k H locs cells slots ls hl hP hS hn hz
    unfold hLs at k
    exact lv_lookup hx1 hb hd g1 rfl (Int.toNat_of_nonneg (hLs_nn pc ps.toList dd x.toInt g2 (fun o ho => by have := List.all_eq_true.mp g3 o ho; simpa using this))).symm k
  | getfield idx => 
    simp only [hChkI, Bool.and_eq_true, Bool.or_eq_true, decide_eq_true_eq] at hc
    obtain ⟨⟨⟨⟨g1, g2⟩, g3⟩, g4⟩, rfl⟩ := hc
    rw [Nat.add_sub_cancel_left] at hd
    obtain ⟨c1, c2, c3, c4, -⟩ := hCls g1
    have key : ∀ (c : Nat) (r : List hV) (w : hV), S.1[c]? = some a → (hFs h0 a c S)[b]? = some (hvv h0 w) → hG D cs h0 n0 z0 I p l e R s m args below meth c0 Q (pc + 3) L (w :: r) S → hG D cs h0 n0 z0 I p l e R s m args below meth c0 Q pc L (.inr (some (a, c)) :: r) S := by
      intro c r w hk hv k H locs cells slots ls hl hP hS hn hz
      rcases g3 with g3 | g3
      · exact va_get (D := D) (ci := a) (C := hR a) (T := hT a) (N := hNf.getD a 0) hx1 hb hts c2 hown hK hP c (hWd_o hk g1) c1 b g2 (hWord hts g3 rfl) (fun _ h9 => h9) hv hd (k H locs cells slots ls hl hP hS hn hz)
      · exact va_getN (D := D) (ci := a) (C := hR a) (T := hT a) (N := hNf.getD a 0) hx1 hb hts c2 hown hK hP c (hWd_o hk g1) c1 b g2 (va_Nw.use rfl (hN _ (List.mem_of_getElem? g3) rfl)) (fun _ h9 => h9) hv hd (k H locs cells slots ls hl hP hS hn hz)
    dsimp only [hAct] at ha
    by_cases hrf : hRef a b = true
    · rw [if_pos hrf] at g4
      subst g4
      try dsimp only at ha
      obtain ⟨k, c, r, rfl, ha9⟩ := hr_some ha
      clear ha
      have ha := ha9
      clear ha9
      split at ha
      · rename_i hka
        subst hka
        cases ha
        refine ⟨ok.tail.push ?_, List.prefix_refl _, fun _ _ kk => key c r _ ok.head (by rw [hFs_at g2, if_pos hrf]; rfl) kk⟩
        cases hq : S.2.2 c b with
        | none => trivial
        | some q9 => exact ok.1 _ _ _ hq
      · cases ha
    · rw [if_neg hrf] at g4
      subst g4
      try dsimp only at ha
      obtain ⟨k, c, r, rfl, ha9⟩ := hr_some ha
      clear ha
      have ha := ha9
      clear ha9
      split at ha
      · rename_i hka
        subst hka
        cases ha
        exact ⟨ok.tail.push trivial, List.prefix_refl _, fun _ _ kk => key c r _ ok.head (by rw [hFs_at g2, if_neg hrf]; rfl) kk⟩
      · cases ha
  | putfield idx => 
    simp only [hChkI, Bool.and_eq_true, decide_eq_true_eq] at hc
    obtain ⟨⟨⟨g1, g2⟩, rfl⟩, g3⟩ := hc
    rw [Nat.add_sub_cancel_left] at hd
    obtain ⟨c1, c2, c3, c4, -⟩ := hCls g1
    have key : ∀ (c : Nat) (r : List hV) (x : Int32) (ty : FieldType), hRef a b = false → (lw_tbl[q]? = some (.fieldLink I.1.cls idx (hT a b).1 (hT a b).2.1 (hT a b).2.2.1) ∨ lw_tbl[q]? = some (.fieldLinkNest I.1.cls idx (hT a b).1 (hT a b).2.1 (hT a b).2.2.1 "HeldBlades")) → (hT a b).2.2.2 = false → parseFieldDescriptor (hT a b).2.2.1 = some ty → narrow ty (.int x) = .int x → fits ty (.int x) = true → S.1[c]? = some a → hG D cs h0 n0 z0 I p l e R s m args below meth c0 Q (pc + 3) L r (hPut S c b x) → hG D cs h0 n0 z0 I p l e R s m args below meth c0 Q pc L (.inl x :: .inr (some (a, c)) :: r) S := by
      intro c r x ty hrf g3 hfin hty hna hfi hk k H locs cells slots ls hl hP hS hn hz
      rcases g3 with g3 | g3
      · exact va_put (D := D) (ci := a) (C := hR a) (T := hT a) (N := hNf.getD a 0) hx1 hb hts c2 (hTy a) c3 c4 hown hK hP (hWd_D h0 cs S) hS c (hWd_o hk g1) c1 b g2 (hWord hts g3 rfl) (fun _ h9 => h9) hfin hty hna hfi (by rw [hFs_len]; exact g2) hd (fun H1 locs1 hP1 _ hS1 => by have hP1 : va_P D vwCl (List.set (hWd h0 cs S) c (h0 + c, .inr (a, (hFs h0 a c S).set b (.int x)))) H1 := hP1; rw [hWd_put hk g1 hrf] at hP1; exact k H1 locs1 cells slots ls hl hP1 hS1 hn hz)
      · exact va_putN (D := D) (ci := a) (C := hR a) (T := hT a) (N := hNf.getD a 0) hx1 hb hts c2 (hTy a) c3 c4 hown hK hP (hWd_D h0 cs S) hS c (hWd_o hk g1) c1 b g2 (va_Nw.use rfl (hN _ (List.mem_of_getElem? g3) rfl)) (fun _ h9 => h9) hfin hty hna hfi (by rw [hFs_len]; exact g2) hd (fun H1 locs1 hP1 _ hS1 => by have hP1 : va_P D vwCl (List.set (hWd h0 cs S) c (h0 + c, .inr (a, (hFs h0 a c S).set b (.int x)))) H1 := hP1; rw [hWd_put hk g1 hrf] at hP1; exact k H1 locs1 cells slots ls hl hP1 hS1 hn hz)
    dsimp only [hAct] at ha
    split at ha
    · simp only [Bool.and_eq_true, Bool.or_eq_true, Bool.not_eq_true', decide_eq_true_eq] at g3
      obtain ⟨⟨⟨f1, f2⟩, f3⟩, f4⟩ := g3
      split at ha
      · rename_i hka
        subst hka
        cases ha
        exact ⟨ok.tail.tail.same rfl rfl, List.prefix_refl _, fun _ _ kk => key _ _ _ _ f1 f2 f3 f4 rfl rfl ok.tail.head kk⟩
      · cases ha
    · simp only [Bool.and_eq_true, decide_eq_true_eq] at g3
      obtain ⟨⟨⟨⟨⟨f1, f2⟩, f3⟩, f4⟩, f5⟩, f6⟩ := g3
      rename_i x k c r
      split at ha
      · rename_i hka
        subst hka
        cases ha
        refine ⟨ok.tail.tail.putR ok.head, List.prefix_refl _, fun _ _ kk H locs cells slots ls hl hP hS hn hz => ?_⟩
        obtain ⟨ty, hty, hna, hfi⟩ : ∃ ty, parseFieldDescriptor (hT k b).2.2.1 = some ty ∧ narrow ty (.ref (h0 + x.2)) = .ref (h0 + x.2) ∧ fits ty (.ref (h0 + x.2)) = true := by
          unfold hRefT at f6
          split at f6
          · rename_i z hz; exact ⟨_, hz, rfl, rfl⟩
          · rename_i z hz; exact ⟨_, hz, rfl, rfl⟩
          · cases f6
        exact va_putF (D := D) (ci := k) (v := .ref (h0 + x.2)) (C := hR k) (T := hT k) (N := hNf.getD k 0) hx1 hb hts c2 (hTy k) c3 c4 hown hK hP (hWd_D h0 cs S) hS c (hWd_o ok.tail.head g1) c1 b g2 (hWord hts f2 rfl) (fun _ h9 => h9) f3 (hnm.trans f5) f4 hty hna hfi (by rw [hFs_len]; exact g2) hd (fun H1 locs1 hP1 _ hS1 => by rw [hWd_putR ok.tail.head g1 f1] at hP1; exact kk H1 locs1 cells slots ls hl hP1 hS1 hn hz)
      · cases ha
    · simp only [Bool.and_eq_true, Bool.or_eq_true, Bool.not_eq_true', decide_eq_true_eq] at g3
      obtain ⟨⟨⟨f1, f2⟩, f3⟩, f4⟩ := g3
      split at ha
      · rename_i hka
        subst hka
        split at ha
        · rename_i hbx
          cases ha
          exact ⟨ok.tail.tail.same rfl rfl, List.prefix_refl _, fun _ _ kk => key _ _ _ _ f1 f2 f3 f4 (hB_nar hbx).1 (hB_nar hbx).2.1 ok.tail.head kk⟩
        · cases ha
      · cases ha
    · cases ha
  | iaload => 
    simp only [hChkI, Bool.and_eq_true, decide_eq_true_eq] at hc
    subst hc
    rw [Nat.add_sub_cancel_left] at hd
    dsimp only [hAct] at ha
    obtain ⟨i, k, c, r, rfl, ha9⟩ := hir_some ha
    clear ha
    have ha := ha9
    clear ha9
    split at ha
    · rename_i hi
      cases ha
      refine ⟨ok.tail.tail.push ?_, List.prefix_refl _, fun _ _ kk H locs cells slots ls hl hP hS hn hz => va_iald hx1 hb hK hP c 0 (hWd_i ok.tail.head hi.1.1 hi.1.2) rfl (vp_in_iff.mpr ⟨hi.2.1, hi.2.2⟩) hd (kk H locs cells slots ls hl hP hS hn hz)⟩
      trivial
    · cases ha
  | baload => 
    simp only [hChkI, Bool.and_eq_true, decide_eq_true_eq] at hc
    subst hc
    rw [Nat.add_sub_cancel_left] at hd
    dsimp only [hAct] at ha
    obtain ⟨i, k, c, r, rfl, ha9⟩ := hir_some ha
    clear ha
    have ha := ha9
    clear ha9
    split at ha
    · rename_i hi
      cases ha
      refine ⟨ok.tail.tail.push ?_, List.prefix_refl _, fun _ _ kk H locs cells slots ls hl hP hS hn hz => va_zald hx1 hb hK hP c 1 (hWd_z ok.tail.head hi.1.1 hi.1.2) rfl (vp_in_iff.mpr ⟨hi.2.1, hi.2.2⟩) hd (kk H locs cells slots ls hl hP hS hn hz)⟩
      trivial
    · cases ha
  | aaload => 
    simp only [hChkI, Bool.and_eq_true, decide_eq_true_eq] at hc
    subst hc
    rw [Nat.add_sub_cancel_left] at hd
    dsimp only [hAct] at ha
    obtain ⟨i, k, c, r, rfl, ha9⟩ := hir_some ha
    clear ha
    have ha := ha9
    clear ha9
    split at ha
    · rename_i hi
      cases ha
      refine ⟨ok.tail.tail.push ?_, List.prefix_refl _, fun _ _ kk H locs cells slots ls hl hP hS hn hz => va_aldq (C := "HeldBlades$Moment") hx1 hb hK hP c 2 (hWd_q ok.tail.head hi.1.1) rfl (vp_in_iff.mpr ⟨hi.2.1, hi.2.2⟩) hd (kk H locs cells slots ls hl hP hS hn hz)⟩
      cases hq : S.2.2 c i.toNatClampNeg with
      | none => trivial
      | some q9 => exact ok.1 _ _ _ hq
    · cases ha
  | iastore => 
    simp only [hChkI, Bool.and_eq_true, decide_eq_true_eq] at hc
    subst hc
    rw [Nat.add_sub_cancel_left] at hd
    dsimp only [hAct] at ha
    split at ha
    · rename_i x i k c r
      split at ha
      · rename_i hi
        cases ha
        exact ⟨ok.tail.tail.tail.same rfl rfl, List.prefix_refl _, fun _ _ kk H locs cells slots ls hl hP hS hn hz => va_iast hx1 hb hK hP (hWd_D h0 cs S) hS c 0 (hWd_i ok.tail.tail.head hi.1.1 hi.1.2) rfl (vp_in_iff.mpr ⟨hi.2.1, hi.2.2⟩) hd (fun H1 locs1 hP1 _ hS1 => by rw [hWd_iast ok.tail.tail.head hi.1.1 hi.1.2] at hP1; exact kk H1 locs1 cells slots ls hl hP1 hS1 hn hz)⟩
      · cases ha
    · cases ha
  | bastore => 
    simp only [hChkI, Bool.and_eq_true, decide_eq_true_eq] at hc
    subst hc
    rw [Nat.add_sub_cancel_left] at hd
    dsimp only [hAct] at ha
    split at ha
    · rename_i x i k c r
      split at ha
      · rename_i hi
        split at ha
        · rename_i hbx
          cases ha
          exact ⟨ok.tail.tail.tail.same rfl rfl, List.prefix_refl _, fun _ _ kk H locs cells slots ls hl hP hS hn hz => va_zast hx1 hb hK hP (hWd_D h0 cs S) hS c 1 (hWd_z ok.tail.tail.head hi.1.1 hi.1.2) rfl (vp_in_iff.mpr ⟨hi.2.1, hi.2.2⟩) hd (fun H1 locs1 hP1 _ hS1 => by rw [(hB_nar hbx).2.2, hWd_zast ok.tail.tail.head hi.1.1 hi.1.2] at hP1; exact kk H1 locs1 cells slots ls hl hP1 hS1 hn hz)⟩
        · cases ha
      · cases ha
    · cases ha
  | aastore => 
    simp only [hChkI, Bool.and_eq_true, decide_eq_true_eq] at hc
    subst hc
    rw [Nat.add_sub_cancel_left] at hd
    dsimp only [hAct] at ha
    split at ha
    · rename_i x i k c r
      split at ha
      · rename_i hi
        cases ha
        exact ⟨ok.tail.tail.tail.putR ok.head, List.prefix_refl _, fun _ _ kk H locs cells slots ls hl hP hS hn hz => va_astq (r := (RX0, TX0, 4)) hx1 hb hK hP (hWd_D h0 cs S) hS c 2 x 0 (hWd_q ok.tail.tail.head hi.1.1) rfl (hWd_o ok.head (by decide)) rfl (vp_in_iff.mpr ⟨hi.2.1, hi.2.2⟩) hd (fun H1 locs1 hP1 _ hS1 => by rw [hWd_qast (x := (0, x)) ok.tail.tail.head hi.1.1] at hP1; exact kk H1 locs1 cells slots ls hl hP1 hS1 hn hz)⟩
      · cases ha
    · cases ha
  | arraylength => 
    simp only [hChkI, Bool.and_eq_true, decide_eq_true_eq] at hc
    subst hc
    rw [Nat.add_sub_cancel_left] at hd
    dsimp only [hAct] at ha
    obtain ⟨k, c, r, rfl, ha9⟩ := hr_some ha
    clear ha
    have ha := ha9
    clear ha9
    split at ha
    · rename_i hk
      cases ha
      refine ⟨ok.tail.push trivial, List.prefix_refl _, fun _ _ kk H locs cells slots ls hl hP hS hn hz => ?_⟩
      have kk := kk H locs cells slots ls hl hP hS hn hz
      by_cases h1 : k < 20000
      · exact va_alen hx1 hb hK hP c 0 (hWd_i ok.head hk.1 h1) rfl rfl hd kk
      · by_cases h2 : k < 30000
        · exact va_alen hx1 hb hK hP c 1 (hWd_z ok.head (by omega) h2) rfl rfl hd kk
        · exact va_alen hx1 hb hK hP c 2 (hWd_q ok.head (by omega)) rfl rfl hd kk
    · cases ha
  | new idx => 
    simp only [hChkI, Bool.and_eq_true, decide_eq_true_eq] at hc
    obtain ⟨⟨g1, g2⟩, rfl⟩ := hc
    rw [Nat.add_sub_cancel_left] at hd
    dsimp only [hAct, hPush] at ha
    cases ha
    obtain ⟨c1, c2, c3, c4, c5, c6, c7⟩ := hCls g1
    refine ⟨ok.new a, hPre S a, fun q1 q2 kk H locs cells slots ls hl hP hS hn hz => ?_⟩
    have hlen : (hNew S a).1.length = S.1.length + 1 := by show (S.1 ++ [a]).length = _; simp
    have hsl : hSl (hNew S a).1 = hSl S.1 + hNf.getD a 0 := by show hSl (S.1 ++ [a]) = _; rw [hSl_push, if_pos g1]
    refine va_new (ci := a) (fs := hFs h0 a S.1.length (hNew S a)) (C := hR a) (T := hT a) (N := hNf.getD a 0) hx1 hb hts c2 (hTy a) c3 hown (hWord hts g2 rfl) (hts _ c6) (hts _ c7) hK hP (hWd_D h0 cs S) hS hA c1 (fun j hj => ?_) (by omega) (by omega) hd (fun q9 H1 hP1 hD1 hS1 => ?_)
    · rw [c5 j hj]
      unfold vp_V
      rw [List.getD_eq_getElem?_getD, hFs_at hj]
      have e1 : (hNew S a).2.2 S.1.length = fun _ => none := va_up_self _ _ _
      have e2 : (hNew S a).2.1 S.1.length = fun _ => 0 := va_up_self _ _ _
      rw [e1, e2]; rfl
    · refine hSize (fun hs9 => ?_)
      have hq : q9 = h0 + S.1.length := hWd_fresh hD1 (by have h9 := hLastLt hP1; omega)
      subst hq
      rw [← hCel_o (cs := cs) g1, ← hWd_new] at hP1
      exact kk H1 locs (cells + 1) (slots + hNf.getD a 0) ls hl hP1 hS1 (by omega) (by omega)
  | newarray at9 => 
    cases at9 with
    | int =>
      simp only [hChkI, Bool.and_eq_true, decide_eq_true_eq] at hc
      obtain ⟨rfl, rfl⟩ := hc
      rw [Nat.add_sub_cancel_left] at hd
      dsimp only [hAct] at ha
      obtain ⟨n, r, rfl, ha9⟩ := h1_some ha
      clear ha
      have ha := ha9
      clear ha9
      split at ha
      · rename_i hn9
        dsimp only [hPush] at ha
        cases ha
        have hnn : ¬ n < 0 := fun h => by have := Int32.lt_iff_toInt_lt.mp h; simp at this; omega
        have hcl : n.toNatClampNeg < 10000 := by have : n.toNatClampNeg = n.toInt.toNat := rfl; omega
        generalize hN9 : n.toNatClampNeg = N at hcl ⊢
        refine ⟨ok.tail.new (10000 + N), hPre S _, fun q1 q2 kk H locs cells slots ls hl hP hS hn hz => ?_⟩
        have hlen : (hNew S (10000 + N)).1.length = S.1.length + 1 := by show (S.1 ++ [_]).length = _; simp
        have hsl : hSl (hNew S (10000 + N)).1 = hSl S.1 + N := by show hSl (S.1 ++ [_]) = _; rw [hSl_push, if_neg (by omega)]; omega
        have hby : N * componentBytes .int ≤ 536870912 := by
          have h4 : componentBytes .int ≤ 4 := by decide
          have h5 := Nat.mul_le_mul_left N h4
          omega
        refine va_newa (atype := .int) (ty := .int) (a0 := (N, .inl fun _ => 0)) hx1 hb (hts _ (by decide +kernel)) rfl hK hP (hWd_D h0 cs S) hS hA (fun cA => rfl) hnn hN9 hby (by omega) (by omega) hd (fun q9 cA H1 hK1 hP1 hD1 hS1 => ?_)
        have ecA : cA = cs.1 := by
          have e1 := (hK.2 0 _ rfl).2
          have e2 := (hK1.2 3 _ rfl).2
          have e3 : (some cA : Option ClassId) = some cs.1 := e2.symm.trans e1
          exact Option.some.inj e3
        subst ecA
        refine hSize (fun hs9 => ?_)
        have hq : q9 = h0 + S.1.length := hWd_fresh hD1 (by have h9 := hLastLt hP1; omega)
        subst hq
        have ec : (.inl (cs.1, N, .inl fun _ => 0) : va_E) = hCel h0 cs (10000 + N) S.1.length (hNew S (10000 + N)) := by
          have e2 : (hNew S (10000 + N)).2.1 S.1.length = fun _ => 0 := va_up_self _ _ _
          rw [hCel_i (by omega) (by omega), e2, show (10000 + N) % 10000 = N by omega]
        rw [ec, ← hWd_new] at hP1
        exact kk H1 locs (cells + 1) (slots + N) ls hl hP1 hS1 (by omega) (by omega)
      · cases ha
    | boolean =>
      simp only [hChkI, Bool.and_eq_true, decide_eq_true_eq] at hc
      obtain ⟨rfl, rfl⟩ := hc
      rw [Nat.add_sub_cancel_left] at hd
      dsimp only [hAct] at ha
      obtain ⟨n, r, rfl, ha9⟩ := h1_some ha
      clear ha
      have ha := ha9
      clear ha9
      split at ha
      · rename_i hn9
        dsimp only [hPush] at ha
        cases ha
        have hnn : ¬ n < 0 := fun h => by have := Int32.lt_iff_toInt_lt.mp h; simp at this; omega
        have hcl : n.toNatClampNeg < 10000 := by have : n.toNatClampNeg = n.toInt.toNat := rfl; omega
        generalize hN9 : n.toNatClampNeg = N at hcl ⊢
        refine ⟨ok.tail.new (20000 + N), hPre S _, fun q1 q2 kk H locs cells slots ls hl hP hS hn hz => ?_⟩
        have hlen : (hNew S (20000 + N)).1.length = S.1.length + 1 := by show (S.1 ++ [_]).length = _; simp
        have hsl : hSl (hNew S (20000 + N)).1 = hSl S.1 + N := by show hSl (S.1 ++ [_]) = _; rw [hSl_push, if_neg (by omega)]; omega
        have hby : N * componentBytes .boolean ≤ 536870912 := by
          have h4 : componentBytes .boolean ≤ 4 := by decide
          have h5 := Nat.mul_le_mul_left N h4
          omega
        refine va_newa (atype := .boolean) (ty := .boolean) (a0 := (N, .inl fun _ => 0)) hx1 hb (hts _ (by decide +kernel)) rfl hK hP (hWd_D h0 cs S) hS hA (fun cA => rfl) hnn hN9 hby (by omega) (by omega) hd (fun q9 cA H1 hK1 hP1 hD1 hS1 => ?_)
        have ecA : cA = cs.2.1 := by
          have e1 := (hK.2 1 _ rfl).2
          have e2 := (hK1.2 3 _ rfl).2
          have e3 : (some cA : Option ClassId) = some cs.2.1 := e2.symm.trans e1
          exact Option.some.inj e3
        subst ecA
        refine hSize (fun hs9 => ?_)
        have hq : q9 = h0 + S.1.length := hWd_fresh hD1 (by have h9 := hLastLt hP1; omega)
        subst hq
        have ec : (.inl (cs.2.1, N, .inl fun _ => 0) : va_E) = hCel h0 cs (20000 + N) S.1.length (hNew S (20000 + N)) := by
          have e2 : (hNew S (20000 + N)).2.1 S.1.length = fun _ => 0 := va_up_self _ _ _
          rw [hCel_z (by omega) (by omega), e2, show (20000 + N) % 10000 = N by omega]
        rw [ec, ← hWd_new] at hP1
        exact kk H1 locs (cells + 1) (slots + N) ls hl hP1 hS1 (by omega) (by omega)
      · cases ha
    | _ => cases hc
  | anewarray idx => 
    simp only [hChkI, Bool.and_eq_true, decide_eq_true_eq] at hc
    obtain ⟨g2, rfl⟩ := hc
    rw [Nat.add_sub_cancel_left] at hd
    dsimp only [hAct] at ha
    obtain ⟨n, r, rfl, ha9⟩ := h1_some ha
    clear ha
    have ha := ha9
    clear ha9
    split at ha
    · rename_i hn9
      dsimp only [hPush] at ha
      cases ha
      have hnn : ¬ n < 0 := fun h => by have := Int32.lt_iff_toInt_lt.mp h; simp at this; omega
      have hcl : n.toNatClampNeg < 10000 := by have : n.toNatClampNeg = n.toInt.toNat := rfl; omega
      generalize hN9 : n.toNatClampNeg = N at hcl ⊢
      refine ⟨ok.tail.new (30000 + N), hPre S _, fun q1 q2 kk H locs cells slots ls hl hP hS hn hz => ?_⟩
      have hlen : (hNew S (30000 + N)).1.length = S.1.length + 1 := by show (S.1 ++ [_]).length = _; simp
      have hsl : hSl (hNew S (30000 + N)).1 = hSl S.1 + N := by show hSl (S.1 ++ [_]) = _; rw [hSl_push, if_neg (by omega)]; omega
      refine va_newq (C := "HeldBlades$Moment") hx1 hb hown (hWord hts g2 rfl) hAO hK hP (hWd_D h0 cs S) hS hA hnn hN9 (by omega) (by omega) (by omega) hd (fun q9 cA H1 hK1 hP1 hD1 hS1 => ?_)
      have ecA : cA = cs.2.2 := by
        obtain ⟨_, _, _, _, _, e1⟩ := (hK.2 2 _ rfl).2
        obtain ⟨_, _, _, _, _, e2⟩ := (hK1.2 3 _ rfl).2
        exact Option.some.inj (e2.symm.trans e1)
      subst ecA
      refine hSize (fun hs9 => ?_)
      have hq : q9 = h0 + S.1.length := hWd_fresh hD1 (by have h9 := hLastLt hP1; omega)
      subst hq
      have ec : (.inl (cs.2.2, N, .inr (.inr (.inr (.inr fun _ => none)))) : va_E) = hCel h0 cs (30000 + N) S.1.length (hNew S (30000 + N)) := by
        have e2 : (hNew S (30000 + N)).2.2 S.1.length = fun _ => none := va_up_self _ _ _
        rw [hCel_q (by omega), e2, show (30000 + N) % 10000 = N by omega]; rfl
      rw [ec, ← hWd_new] at hP1
      exact kk H1 locs (cells + 1) (slots + N) ls hl hP1 hS1 (by omega) (by omega)
    · cases ha
  | invokestatic idx => 
    simp only [hChkI, Bool.and_eq_true, decide_eq_true_eq] at hc
    obtain ⟨rfl, hc⟩ := hc
    rw [Nat.add_sub_cancel_left] at hd
    dsimp only [hAct] at ha
    split at ha
    · rename_i h9
      rw [if_pos h9] at hc
      simp only [Bool.and_eq_true, decide_eq_true_eq] at hc
      obtain ⟨g1, g2⟩ := hc
      split at ha
      · rename_i n dp k1 c1 sp k0 c2 r
        split at ha
        · rename_i hh
          obtain ⟨⟨⟨a1, a2⟩, ⟨a3, a4⟩, a5⟩, ⟨b1, b2, b3⟩, d1, d2⟩ := hh
          subst a5
          cases ha
          have nn : ∀ z : Int32, 0 ≤ z.toInt → ¬ z < 0 := fun z hz h => by have := Int32.lt_iff_toInt_lt.mp h; simp at this; omega
          have o2 := ok.tail.tail.head
          have o4 := ok.tail.tail.tail.tail.head
          refine ⟨ok.tail.tail.tail.tail.tail.same rfl rfl, List.prefix_refl _, fun _ _ kk H locs cells slots ls hl hP hS hn hz => ?_⟩
          have hnw : (List.map (fun v => Value.category v) (List.map (hvv h0) ([] : List hV))).sum + (nativeFrameWords "java/lang/System" "arraycopy" 5 + 11) ≤ R.locals := by
            have h4 : nativeFrameWords "java/lang/System" "arraycopy" 5 + 11 ≤ 40 := by decide
            have e0 : (List.map (fun v => Value.category v) (List.map (hvv h0) ([] : List hV))).sum = 0 := rfl
            rw [e0]; omega
          exact va_copyi (ty := .int) hx1 hb (by rw [hml]; exact hl.1.symm) hown (hWord hts g1 rfl) (hts _ (by decide +kernel)) (hts _ (by decide +kernel)) (hts _ (by decide +kernel)) hK hP (hWd_D h0 cs S) hS c2 c1 0 0 (hWd_i o4 a3 a4) (hWd_i o2 a1 a2) rfl rfl rfl (nn _ b1) (nn _ b2) (nn _ b3) d1 d2 (fun _ _ => rfl) (by omega) hnw hd (fun H1 locs1 hP1 _ hS1 => by rw [hWd_cpy o2 a1 a2] at hP1; exact kk H1 locs1 cells slots ls hl hP1 hS1 hn hz)
        · cases ha
      · cases ha
    · split at ha <;> cases ha
  | invokespecial idx => 
    simp only [hChkI, Bool.and_eq_true, decide_eq_true_eq] at hc
    obtain ⟨rfl, hc⟩ := hc
    rw [Nat.add_sub_cancel_left] at hd
    dsimp only [hAct] at ha
    split at ha
    · rename_i h9
      rw [if_pos h9] at hc
      simp only [Bool.and_eq_true, decide_eq_true_eq] at hc
      obtain ⟨g1, g2⟩ := hc
      split at ha
      · rename_i x r
        split at ha
        · rename_i hh
          cases ha
          refine ⟨ok.tail, List.prefix_refl _, fun _ _ kk H locs cells slots ls hl hP hS hn hz => ?_⟩
          refine W.objInit hx1 hb hown (hWord hts g1 rfl) (hts _ (by decide +kernel)) (hts _ (by decide +kernel)) rfl (by rw [hml]; exact hl.1) rfl hd (by omega) (Nat.le_trans (Nat.add_le_add_right (lv_room (by rw [hSum]; exact hh)) 12) (by omega)) (kk H locs cells slots ls hl hP hS hn hz)
        · cases ha
      · cases ha
    · split at ha
      · split at ha <;> cases ha
      · cases ha
  | invokevirtual idx => 
    dsimp only [hAct] at ha
    split at ha
    · split at ha <;> cases ha
    · cases ha
  | ireturn => 
    dsimp only [hAct] at ha
    split at ha
    · split at ha
      · split at ha <;> cases ha
      · cases ha
    · cases ha
  | return_ => 
    dsimp only [hAct] at ha
    split at ha <;> cases ha
  | aload k => cases hc
  | _ => cases ha
end
section
set_option maxHeartbeats 4000000 in
set_option maxRecDepth 100000 in
theorem hOk {I : hI} {E : hE} {L : List (Option hV)} {st : List hV} {S : hS} {pc' : Nat} {L' : List (Option hV)} {st' : List hV} {S1 : hS} (hc : hChkE I E = true) (ha : hAct E L st S = some (.inl (pc', L', st', S1))) (ok : okF S L st) : okF S1 L' st' ∧ S.1 <+: S1.1 := by
  obtain ⟨pc, i, nx, a, b, d, q, v⟩ := E
  simp only [hChkE, Bool.and_eq_true, decide_eq_true_eq] at hc
  obtain ⟨hd, hc⟩ := hc
  try dsimp only at hd
  cases i with
  | iconst n => 
    simp only [hChkI, Bool.and_eq_true, decide_eq_true_eq] at hc
    obtain ⟨h1, rfl⟩ := hc
    rw [Nat.add_sub_cancel_left] at hd
    dsimp only [hAct] at ha
    cases ha
    exact ⟨ok.push trivial, List.prefix_refl _⟩
  | bipush n => 
    simp only [hChkI, Bool.and_eq_true, decide_eq_true_eq] at hc
    obtain ⟨h1, rfl⟩ := hc
    rw [Nat.add_sub_cancel_left] at hd
    dsimp only [hAct] at ha
    cases ha
    exact ⟨ok.push trivial, List.prefix_refl _⟩
  | sipush n => 
    simp only [hChkI, Bool.and_eq_true, decide_eq_true_eq] at hc
    obtain ⟨h1, rfl⟩ := hc
    rw [Nat.add_sub_cancel_left] at hd
    dsimp only [hAct] at ha
    cases ha
    exact ⟨ok.push trivial, List.prefix_refl _⟩
  | ldc n => 
    simp only [hChkI, Bool.and_eq_true, decide_eq_true_eq] at hc
    obtain ⟨h1, rfl⟩ := hc
    rw [Nat.add_sub_cancel_left] at hd
    dsimp only [hAct] at ha
    cases ha
    exact ⟨ok.push trivial, List.prefix_refl _⟩
  | ldc_w n => 
    simp only [hChkI, Bool.and_eq_true, decide_eq_true_eq] at hc
    obtain ⟨h1, rfl⟩ := hc
    rw [Nat.add_sub_cancel_left] at hd
    dsimp only [hAct] at ha
    cases ha
    exact ⟨ok.push trivial, List.prefix_refl _⟩
  | iload_n k => 
    simp only [hChkI, Bool.and_eq_true, decide_eq_true_eq] at hc
    obtain ⟨rfl, rfl⟩ := hc
    rw [Nat.add_sub_cancel_left] at hd
    dsimp only [hAct] at ha
    split at ha
    · rename_i x hxL
      cases ha
      exact ⟨ok.push trivial, List.prefix_refl _⟩
    · cases ha
  | iload k => 
    simp only [hChkI, Bool.and_eq_true, decide_eq_true_eq] at hc
    obtain ⟨rfl, rfl⟩ := hc
    rw [Nat.add_sub_cancel_left] at hd
    dsimp only [hAct] at ha
    split at ha
    · rename_i x hxL
      cases ha
      exact ⟨ok.push trivial, List.prefix_refl _⟩
    · cases ha
  | aload_n k => 
    simp only [hChkI, Bool.and_eq_true, decide_eq_true_eq] at hc
    obtain ⟨rfl, rfl⟩ := hc
    rw [Nat.add_sub_cancel_left] at hd
    dsimp only [hAct] at ha
    split at ha
    · rename_i x hxL
      cases ha
      exact ⟨ok.push (ok.2.1 _ _ hxL), List.prefix_refl _⟩
    · cases ha
  | istore_n k => 
    simp only [hChkI, Bool.and_eq_true, decide_eq_true_eq] at hc
    obtain ⟨⟨rfl, rfl⟩, h3⟩ := hc
    rw [Nat.add_sub_cancel_left] at hd
    dsimp only [hAct] at ha
    split at ha
    · rename_i x r
      cases ha
      exact ⟨ok.tail.store _ ok.head, List.prefix_refl _⟩
    · cases ha
  | istore k => 
    simp only [hChkI, Bool.and_eq_true, decide_eq_true_eq] at hc
    obtain ⟨⟨rfl, rfl⟩, h3⟩ := hc
    rw [Nat.add_sub_cancel_left] at hd
    dsimp only [hAct] at ha
    split at ha
    · rename_i x r
      cases ha
      exact ⟨ok.tail.store _ ok.head, List.prefix_refl _⟩
    · cases ha
  | astore_n k => 
    simp only [hChkI, Bool.and_eq_true, decide_eq_true_eq] at hc
    obtain ⟨⟨rfl, rfl⟩, h3⟩ := hc
    rw [Nat.add_sub_cancel_left] at hd
    dsimp only [hAct] at ha
    split at ha
    · rename_i x r
      cases ha
      exact ⟨ok.tail.store _ ok.head, List.prefix_refl _⟩
    · cases ha
  | iinc k n => 
    simp only [hChkI, Bool.and_eq_true, decide_eq_true_eq] at hc
    obtain ⟨⟨⟨rfl, h1⟩, rfl⟩, h3⟩ := hc
    rw [Nat.add_sub_cancel_left] at hd
    dsimp only [hAct] at ha
    split at ha
    · rename_i x hxL
      cases ha
      exact ⟨ok.store _ trivial, List.prefix_refl _⟩
    · cases ha
  | iadd => 
    simp only [hChkI, Bool.and_eq_true, decide_eq_true_eq] at hc
    subst hc
    rw [Nat.add_sub_cancel_left] at hd
    dsimp only [hAct] at ha
    obtain ⟨x, y, r, rfl, ha9⟩ := h2_some ha
    clear ha
    have ha := ha9
    clear ha9
    cases ha
    exact ⟨ok.tail.tail.push trivial, List.prefix_refl _⟩
  | isub => 
    simp only [hChkI, Bool.and_eq_true, decide_eq_true_eq] at hc
    subst hc
    rw [Nat.add_sub_cancel_left] at hd
    dsimp only [hAct] at ha
    obtain ⟨x, y, r, rfl, ha9⟩ := h2_some ha
    clear ha
    have ha := ha9
    clear ha9
    cases ha
    exact ⟨ok.tail.tail.push trivial, List.prefix_refl _⟩
  | imul => 
    simp only [hChkI, Bool.and_eq_true, decide_eq_true_eq] at hc
    subst hc
    rw [Nat.add_sub_cancel_left] at hd
    dsimp only [hAct] at ha
    obtain ⟨x, y, r, rfl, ha9⟩ := h2_some ha
    clear ha
    have ha := ha9
    clear ha9
    cases ha
    exact ⟨ok.tail.tail.push trivial, List.prefix_refl _⟩
  | iand => 
    simp only [hChkI, Bool.and_eq_true, decide_eq_true_eq] at hc
    subst hc
    rw [Nat.add_sub_cancel_left] at hd
    dsimp only [hAct] at ha
    obtain ⟨x, y, r, rfl, ha9⟩ := h2_some ha
    clear ha
    have ha := ha9
    clear ha9
    cases ha
    exact ⟨ok.tail.tail.push trivial, List.prefix_refl _⟩
  | ior => 
    simp only [hChkI, Bool.and_eq_true, decide_eq_true_eq] at hc
    subst hc
    rw [Nat.add_sub_cancel_left] at hd
    dsimp only [hAct] at ha
    obtain ⟨x, y, r, rfl, ha9⟩ := h2_some ha
    clear ha
    have ha := ha9
    clear ha9
    cases ha
    exact ⟨ok.tail.tail.push trivial, List.prefix_refl _⟩
  | ixor => 
    simp only [hChkI, Bool.and_eq_true, decide_eq_true_eq] at hc
    subst hc
    rw [Nat.add_sub_cancel_left] at hd
    dsimp only [hAct] at ha
    obtain ⟨x, y, r, rfl, ha9⟩ := h2_some ha
    clear ha
    have ha := ha9
    clear ha9
    cases ha
    exact ⟨ok.tail.tail.push trivial, List.prefix_refl _⟩
  | ishl => 
    simp only [hChkI, Bool.and_eq_true, decide_eq_true_eq] at hc
    subst hc
    rw [Nat.add_sub_cancel_left] at hd
    dsimp only [hAct] at ha
    obtain ⟨x, y, r, rfl, ha9⟩ := h2_some ha
    clear ha
    have ha := ha9
    clear ha9
    cases ha
    exact ⟨ok.tail.tail.push trivial, List.prefix_refl _⟩
  | ishr => 
    simp only [hChkI, Bool.and_eq_true, decide_eq_true_eq] at hc
    subst hc
    rw [Nat.add_sub_cancel_left] at hd
    dsimp only [hAct] at ha
    obtain ⟨x, y, r, rfl, ha9⟩ := h2_some ha
    clear ha
    have ha := ha9
    clear ha9
    cases ha
    exact ⟨ok.tail.tail.push trivial, List.prefix_refl _⟩
  | iushr => 
    simp only [hChkI, Bool.and_eq_true, decide_eq_true_eq] at hc
    subst hc
    rw [Nat.add_sub_cancel_left] at hd
    dsimp only [hAct] at ha
    obtain ⟨x, y, r, rfl, ha9⟩ := h2_some ha
    clear ha
    have ha := ha9
    clear ha9
    cases ha
    exact ⟨ok.tail.tail.push trivial, List.prefix_refl _⟩
  | ineg => 
    simp only [hChkI, Bool.and_eq_true, decide_eq_true_eq] at hc
    subst hc
    rw [Nat.add_sub_cancel_left] at hd
    dsimp only [hAct] at ha
    obtain ⟨x, r, rfl, ha9⟩ := h1_some ha
    clear ha
    have ha := ha9
    clear ha9
    cases ha
    exact ⟨ok.tail.push trivial, List.prefix_refl _⟩
  | idiv => 
    simp only [hChkI, Bool.and_eq_true, decide_eq_true_eq] at hc
    subst hc
    rw [Nat.add_sub_cancel_left] at hd
    dsimp only [hAct] at ha
    obtain ⟨x, y, r, rfl, ha9⟩ := h2_some ha
    clear ha
    have ha := ha9
    clear ha9
    split at ha
    · cases ha
    · rename_i hy
      cases ha
      exact ⟨ok.tail.tail.push trivial, List.prefix_refl _⟩
  | irem => 
    simp only [hChkI, Bool.and_eq_true, decide_eq_true_eq] at hc
    subst hc
    rw [Nat.add_sub_cancel_left] at hd
    dsimp only [hAct] at ha
    obtain ⟨x, y, r, rfl, ha9⟩ := h2_some ha
    clear ha
    have ha := ha9
    clear ha9
    split at ha
    · cases ha
    · rename_i hy
      cases ha
      exact ⟨ok.tail.tail.push trivial, List.prefix_refl _⟩
  | dup => 
    simp only [hChkI, Bool.and_eq_true, decide_eq_true_eq] at hc
    subst hc
    rw [Nat.add_sub_cancel_left] at hd
    dsimp only [hAct] at ha
    split at ha
    · rename_i x r
      cases ha
      exact ⟨ok.push ok.head, List.prefix_refl _⟩
    · cases ha
  | dup2 => 
    simp only [hChkI, Bool.and_eq_true, decide_eq_true_eq] at hc
    subst hc
    rw [Nat.add_sub_cancel_left] at hd
    dsimp only [hAct] at ha
    split at ha
    · rename_i x y r
      cases ha
      exact ⟨(ok.push ok.tail.head).push ok.head, List.prefix_refl _⟩
    · cases ha
  | if_icmp cc off => 
    simp only [hChkI, Bool.and_eq_true, decide_eq_true_eq] at hc
    obtain ⟨h1, rfl⟩ := hc
    rw [Nat.add_sub_cancel_left] at hd
    dsimp only [hAct] at ha
    obtain ⟨x, y, r, rfl, ha9⟩ := h2_some ha
    clear ha
    have ha := ha9
    clear ha9
    cases ha
    exact ⟨ok.tail.tail, List.prefix_refl _⟩
  | ifCond cc off => 
    simp only [hChkI, Bool.and_eq_true, decide_eq_true_eq] at hc
    obtain ⟨h1, rfl⟩ := hc
    rw [Nat.add_sub_cancel_left] at hd
    dsimp only [hAct] at ha
    obtain ⟨x, r, rfl, ha9⟩ := h1_some ha
    clear ha
    have ha := ha9
    clear ha9
    cases ha
    exact ⟨ok.tail, List.prefix_refl _⟩
  | goto off => 
    simp only [hChkI, Bool.and_eq_true, decide_eq_true_eq] at hc
    obtain ⟨h1, rfl⟩ := hc
    rw [Nat.add_sub_cancel_left] at hd
    dsimp only [hAct] at ha
    cases ha
    exact ⟨ok, List.prefix_refl _⟩
  | tableswitch dd lo hi offs => 
    simp only [hChkI, Bool.and_eq_true, decide_eq_true_eq, Array.all_eq_true] at hc
    obtain ⟨⟨g1, g2⟩, g3⟩ := hc
    dsimp only [hAct] at ha
    obtain ⟨x, r, rfl, ha9⟩ := h1_some ha
    clear ha
    have ha := ha9
    clear ha9
    cases ha
    exact ⟨ok.tail, List.prefix_refl _⟩
  | lookupswitch dd ps => 
    simp only [hChkI, Bool.and_eq_true, decide_eq_true_eq] at hc
    obtain ⟨⟨g1, g2⟩, g3⟩ := hc
    dsimp only [hAct] at ha
    obtain ⟨x, r, rfl, ha9⟩ := h1_some ha
    clear ha
    have ha := ha9
    clear ha9
    cases ha
    exact ⟨ok.tail, List.prefix_refl _⟩
  | getfield idx => 
    simp only [hChkI, Bool.and_eq_true, Bool.or_eq_true, decide_eq_true_eq] at hc
    obtain ⟨⟨⟨⟨g1, g2⟩, g3⟩, g4⟩, rfl⟩ := hc
    rw [Nat.add_sub_cancel_left] at hd
    obtain ⟨c1, c2, c3, c4, -⟩ := hCls g1
    dsimp only [hAct] at ha
    by_cases hrf : hRef a b = true
    · rw [if_pos hrf] at g4
      subst g4
      try dsimp only at ha
      obtain ⟨k, c, r, rfl, ha9⟩ := hr_some ha
      clear ha
      have ha := ha9
      clear ha9
      split at ha
      · rename_i hka
        subst hka
        cases ha
        refine ⟨ok.tail.push ?_, List.prefix_refl _⟩
        cases hq : S.2.2 c b with
        | none => trivial
        | some q9 => exact ok.1 _ _ _ hq
      · cases ha
    · rw [if_neg hrf] at g4
      subst g4
      try dsimp only at ha
      obtain ⟨k, c, r, rfl, ha9⟩ := hr_some ha
      clear ha
      have ha := ha9
      clear ha9
      split at ha
      · rename_i hka
        subst hka
        cases ha
        exact ⟨ok.tail.push trivial, List.prefix_refl _⟩
      · cases ha
  | putfield idx => 
    simp only [hChkI, Bool.and_eq_true, decide_eq_true_eq] at hc
    obtain ⟨⟨⟨g1, g2⟩, rfl⟩, g3⟩ := hc
    rw [Nat.add_sub_cancel_left] at hd
    obtain ⟨c1, c2, c3, c4, -⟩ := hCls g1
    dsimp only [hAct] at ha
    split at ha
    · simp only [Bool.and_eq_true, Bool.or_eq_true, Bool.not_eq_true', decide_eq_true_eq] at g3
      obtain ⟨⟨⟨f1, f2⟩, f3⟩, f4⟩ := g3
      split at ha
      · rename_i hka
        subst hka
        cases ha
        exact ⟨ok.tail.tail.same rfl rfl, List.prefix_refl _⟩
      · cases ha
    · simp only [Bool.and_eq_true, decide_eq_true_eq] at g3
      obtain ⟨⟨⟨⟨⟨f1, f2⟩, f3⟩, f4⟩, f5⟩, f6⟩ := g3
      rename_i x k c r
      split at ha
      · rename_i hka
        subst hka
        cases ha
        exact ⟨ok.tail.tail.putR ok.head, List.prefix_refl _⟩
      · cases ha
    · simp only [Bool.and_eq_true, Bool.or_eq_true, Bool.not_eq_true', decide_eq_true_eq] at g3
      obtain ⟨⟨⟨f1, f2⟩, f3⟩, f4⟩ := g3
      split at ha
      · rename_i hka
        subst hka
        split at ha
        · rename_i hbx
          cases ha
          exact ⟨ok.tail.tail.same rfl rfl, List.prefix_refl _⟩
        · cases ha
      · cases ha
    · cases ha
  | iaload => 
    simp only [hChkI, Bool.and_eq_true, decide_eq_true_eq] at hc
    subst hc
    rw [Nat.add_sub_cancel_left] at hd
    dsimp only [hAct] at ha
    obtain ⟨i, k, c, r, rfl, ha9⟩ := hir_some ha
    clear ha
    have ha := ha9
    clear ha9
    split at ha
    · rename_i hi
      cases ha
      refine ⟨ok.tail.tail.push ?_, List.prefix_refl _⟩
      trivial
    · cases ha
  | baload => 
    simp only [hChkI, Bool.and_eq_true, decide_eq_true_eq] at hc
    subst hc
    rw [Nat.add_sub_cancel_left] at hd
    dsimp only [hAct] at ha
    obtain ⟨i, k, c, r, rfl, ha9⟩ := hir_some ha
    clear ha
    have ha := ha9
    clear ha9
    split at ha
    · rename_i hi
      cases ha
      refine ⟨ok.tail.tail.push ?_, List.prefix_refl _⟩
      trivial
    · cases ha
  | aaload => 
    simp only [hChkI, Bool.and_eq_true, decide_eq_true_eq] at hc
    subst hc
    rw [Nat.add_sub_cancel_left] at hd
    dsimp only [hAct] at ha
    obtain ⟨i, k, c, r, rfl, ha9⟩ := hir_some ha
    clear ha
    have ha := ha9
    clear ha9
    split at ha
    · rename_i hi
      cases ha
      refine ⟨ok.tail.tail.push ?_, List.prefix_refl _⟩
      cases hq : S.2.2 c i.toNatClampNeg with
      | none => trivial
      | some q9 => exact ok.1 _ _ _ hq
    · cases ha
  | iastore => 
    simp only [hChkI, Bool.and_eq_true, decide_eq_true_eq] at hc
    subst hc
    rw [Nat.add_sub_cancel_left] at hd
    dsimp only [hAct] at ha
    split at ha
    · rename_i x i k c r
      split at ha
      · rename_i hi
        cases ha
        exact ⟨ok.tail.tail.tail.same rfl rfl, List.prefix_refl _⟩
      · cases ha
    · cases ha
  | bastore => 
    simp only [hChkI, Bool.and_eq_true, decide_eq_true_eq] at hc
    subst hc
    rw [Nat.add_sub_cancel_left] at hd
    dsimp only [hAct] at ha
    split at ha
    · rename_i x i k c r
      split at ha
      · rename_i hi
        split at ha
        · rename_i hbx
          cases ha
          exact ⟨ok.tail.tail.tail.same rfl rfl, List.prefix_refl _⟩
        · cases ha
      · cases ha
    · cases ha
  | aastore => 
    simp only [hChkI, Bool.and_eq_true, decide_eq_true_eq] at hc
    subst hc
    rw [Nat.add_sub_cancel_left] at hd
    dsimp only [hAct] at ha
    split at ha
    · rename_i x i k c r
      split at ha
      · rename_i hi
        cases ha
        exact ⟨ok.tail.tail.tail.putR ok.head, List.prefix_refl _⟩
      · cases ha
    · cases ha
  | arraylength => 
    simp only [hChkI, Bool.and_eq_true, decide_eq_true_eq] at hc
    subst hc
    rw [Nat.add_sub_cancel_left] at hd
    dsimp only [hAct] at ha
    obtain ⟨k, c, r, rfl, ha9⟩ := hr_some ha
    clear ha
    have ha := ha9
    clear ha9
    split at ha
    · rename_i hk
      cases ha
      exact ⟨ok.tail.push trivial, List.prefix_refl _⟩
    · cases ha
  | new idx => 
    simp only [hChkI, Bool.and_eq_true, decide_eq_true_eq] at hc
    obtain ⟨⟨g1, g2⟩, rfl⟩ := hc
    rw [Nat.add_sub_cancel_left] at hd
    dsimp only [hAct, hPush] at ha
    cases ha
    obtain ⟨c1, c2, c3, c4, c5, c6, c7⟩ := hCls g1
    exact ⟨ok.new a, hPre S a⟩
  | newarray at9 => 
    cases at9 with
    | int =>
      simp only [hChkI, Bool.and_eq_true, decide_eq_true_eq] at hc
      obtain ⟨rfl, rfl⟩ := hc
      rw [Nat.add_sub_cancel_left] at hd
      dsimp only [hAct] at ha
      obtain ⟨n, r, rfl, ha9⟩ := h1_some ha
      clear ha
      have ha := ha9
      clear ha9
      split at ha
      · rename_i hn9
        dsimp only [hPush] at ha
        cases ha
        have hnn : ¬ n < 0 := fun h => by have := Int32.lt_iff_toInt_lt.mp h; simp at this; omega
        have hcl : n.toNatClampNeg < 10000 := by have : n.toNatClampNeg = n.toInt.toNat := rfl; omega
        generalize hN9 : n.toNatClampNeg = N at hcl ⊢
        exact ⟨ok.tail.new (10000 + N), hPre S _⟩
      · cases ha
    | boolean =>
      simp only [hChkI, Bool.and_eq_true, decide_eq_true_eq] at hc
      obtain ⟨rfl, rfl⟩ := hc
      rw [Nat.add_sub_cancel_left] at hd
      dsimp only [hAct] at ha
      obtain ⟨n, r, rfl, ha9⟩ := h1_some ha
      clear ha
      have ha := ha9
      clear ha9
      split at ha
      · rename_i hn9
        dsimp only [hPush] at ha
        cases ha
        have hnn : ¬ n < 0 := fun h => by have := Int32.lt_iff_toInt_lt.mp h; simp at this; omega
        have hcl : n.toNatClampNeg < 10000 := by have : n.toNatClampNeg = n.toInt.toNat := rfl; omega
        generalize hN9 : n.toNatClampNeg = N at hcl ⊢
        exact ⟨ok.tail.new (20000 + N), hPre S _⟩
      · cases ha
    | _ => cases hc
  | anewarray idx => 
    simp only [hChkI, Bool.and_eq_true, decide_eq_true_eq] at hc
    obtain ⟨g2, rfl⟩ := hc
    rw [Nat.add_sub_cancel_left] at hd
    dsimp only [hAct] at ha
    obtain ⟨n, r, rfl, ha9⟩ := h1_some ha
    clear ha
    have ha := ha9
    clear ha9
    split at ha
    · rename_i hn9
      dsimp only [hPush] at ha
      cases ha
      have hnn : ¬ n < 0 := fun h => by have := Int32.lt_iff_toInt_lt.mp h; simp at this; omega
      have hcl : n.toNatClampNeg < 10000 := by have : n.toNatClampNeg = n.toInt.toNat := rfl; omega
      generalize hN9 : n.toNatClampNeg = N at hcl ⊢
      exact ⟨ok.tail.new (30000 + N), hPre S _⟩
    · cases ha
  | invokestatic idx => 
    simp only [hChkI, Bool.and_eq_true, decide_eq_true_eq] at hc
    obtain ⟨rfl, hc⟩ := hc
    rw [Nat.add_sub_cancel_left] at hd
    dsimp only [hAct] at ha
    split at ha
    · rename_i h9
      rw [if_pos h9] at hc
      simp only [Bool.and_eq_true, decide_eq_true_eq] at hc
      obtain ⟨g1, g2⟩ := hc
      split at ha
      · rename_i n dp k1 c1 sp k0 c2 r
        split at ha
        · rename_i hh
          obtain ⟨⟨⟨a1, a2⟩, ⟨a3, a4⟩, a5⟩, ⟨b1, b2, b3⟩, d1, d2⟩ := hh
          subst a5
          cases ha
          have nn : ∀ z : Int32, 0 ≤ z.toInt → ¬ z < 0 := fun z hz h => by have := Int32.lt_iff_toInt_lt.mp h; simp at this; omega
          have o2 := ok.tail.tail.head
          have o4 := ok.tail.tail.tail.tail.head
          exact ⟨ok.tail.tail.tail.tail.tail.same rfl rfl, List.prefix_refl _⟩
        · cases ha
      · cases ha
    · split at ha <;> cases ha
  | invokespecial idx => 
    simp only [hChkI, Bool.and_eq_true, decide_eq_true_eq] at hc
    obtain ⟨rfl, hc⟩ := hc
    rw [Nat.add_sub_cancel_left] at hd
    dsimp only [hAct] at ha
    split at ha
    · rename_i h9
      rw [if_pos h9] at hc
      simp only [Bool.and_eq_true, decide_eq_true_eq] at hc
      obtain ⟨g1, g2⟩ := hc
      split at ha
      · rename_i x r
        split at ha
        · rename_i hh
          cases ha
          exact ⟨ok.tail, List.prefix_refl _⟩
        · cases ha
      · cases ha
    · split at ha
      · split at ha <;> cases ha
      · cases ha
  | invokevirtual idx => 
    dsimp only [hAct] at ha
    split at ha
    · split at ha <;> cases ha
    · cases ha
  | ireturn => 
    dsimp only [hAct] at ha
    split at ha
    · split at ha
      · split at ha <;> cases ha
      · cases ha
    · cases ha
  | return_ => 
    dsimp only [hAct] at ha
    split at ha <;> cases ha
  | aload k => cases hc
  | _ => cases ha
theorem hAllZ : ∀ q ∈ hInf.zip hCod, hChkM q.1 q.2 = true := by
  simp only [hInf, hCod, List.zip_cons_cons, List.zip_nil_left, List.forall_mem_cons]
  exact ⟨hk_J6_bitCount_0f7a4, hk_J9_abs_0f7a4, hk_J9_floorDiv_7cf53, hk_J9_floorMod_7cf53, hk_J9_max_7cf53, hk_J9_min_7cf53, hk_X10_away, hk_X10_clear, hk_X10_count, hk_X10_forget, hk_X10_in, hk_X10_isToldAlready, hk_X10_leastOf, hk_X10_mostOf, hk_X10_notes, hk_X10_notesSpeed, hk_X10_pitchGoal, hk_X10_plain, hk_X10_record, hk_X10_takesOver, hk_X10_towards, hk_X10_tries, hk_X10_turns, hk_X10_undo, hk_X10_unlikeOnes, hk_X10_whichOf, hk_X1_lose, hk_X2_allHalves, hk_X2_findTurn, hk_X2_placeOf, hk_X3_isTold, hk_X3_settingOf, hk_X3_takesEnd, hk_X4_add, hk_X5_become, hk_X5_put, hk_X5_startAnew, hk_X5_tell, hk_X6_append, hk_X6_letterAt, hk_X7_startAnew, hk_X8_ahead, hk_X8_become, hk_X8_drag, hk_X8_isWound, hk_X8_startAnew, hk_X8_torqueAim, hk_X8_turnBy, hk_X9_alikeUpTo, hk_X9_clear, hk_X9_count, hk_X9_forget, hk_X9_isWithin, hk_X9_loseImages, hk_X0_startAnew, hk_X10_back, hk_X10_becomes, hk_X10_blows, hk_X10_closes, hk_X10_counts, hk_X10_errorOf, hk_X10_findsTurns, hk_X10_ices, hk_X10_init, hk_X10_isFigure, hk_X10_isWound, hk_X10_keep, hk_X10_resets, hk_X10_sees, hk_X10_setting, hk_X10_type, hk_X2_addHalves, hk_X2_greatestDifference, hk_X2_halvesOf, hk_X2_init, hk_X2_isCycleInside, hk_X3_takesLetter, hk_X4_init, hk_X5_init, hk_X5_mayBe, hk_X6_behindBlanks, hk_X6_init, hk_X6_isFigureAt, hk_X7_add, hk_X7_become, hk_X7_init, hk_X7_speedAgo, hk_X8_drive, hk_X8_error, hk_X8_init, hk_X8_nearer, hk_X8_nextMode, hk_X8_pitchAim, hk_X8_turn, hk_X9_sees, hk_X9_setting, hk_X9_type, hk_X0_become, hk_X0_init, hk_X10_driveOf, hk_X10_grids, hk_X10_looksUp, hk_X10_modeOf, hk_X10_next, hk_X10_rains, hk_X10_wants, hk_X2_addToRow, hk_X3_init, hk_X3_takesNumber, hk_X6_behindToken, hk_X6_numberAt, hk_X8_step, hk_X8_tell, hk_X9_record, hk_X0_tick, hk_X10_halvesOf, hk_X10_holds, hk_X10_must, hk_X10_now, hk_X10_rain, hk_X1_add, hk_X1_init, hk_X1_takeLatest, hk_X2_pour, hk_X3_takes, hk_X9_back, hk_X9_bearsGust, hk_X9_keep, hk_X9_now, hk_X9_ridesDip, hk_X9_speedAfter, hk_X10_goesOn, hk_X10_halves, hk_X10_readsItem, hk_X3_read, hk_X9_agreesWithSeen, hk_X9_blows, hk_X9_dip, hk_X9_grids, hk_X9_gust, hk_X9_halves, hk_X9_ices, hk_X9_init, hk_X9_mostAlike, hk_X9_rain, hk_X9_resets, hk_X9_ticks, hk_X9_undo, hk_X9_wants, hk_X10_bears, hk_X10_rides, hk_X10_speedBy, hk_X10_tells, hk_X10_ticks, hk_X9_possibleIce, hk_X9_tells, hk_X10_dip, hk_X10_gust, hk_X10_isSo, hk_X10_mostAlike, hk_X9_ask, hk_X9_which, hk_X10_which, hk_X10_ask, fun _ h => absurd h List.not_mem_nil⟩
theorem hAll {y : Nat} {I : hI} (h : hInf[y]? = some I) : hChkM I (hcod y) = true := by
  have hl : y < hInf.length := (List.getElem?_eq_some_iff.mp h).1
  have hl2 : y < hCod.length := by
    have e : hInf.length = hCod.length := by decide +kernel
    omega
  refine hAllZ (I, hcod y) (List.mem_of_getElem? (i := y) ?_)
  rw [List.getElem?_zip_eq_some]
  refine ⟨h, ?_⟩
  show _ = some (hCod.getD y (0, []))
  rw [List.getD_eq_getElem?_getD, List.getElem?_eq_getElem hl2]; rfl
theorem hAllE {y : Nat} {I : hI} {pc : Nat} {E : hE} (h : hInf[y]? = some I) (hf : hFetch (hcod y) pc = some E) : hChkE I E = true ∧ E.1 = pc := by
  have hm := hAll h
  simp only [hChkM, Bool.and_eq_true] at hm
  unfold hFetch at hf
  split at hf
  · rename_i b hb
    have h1 := List.all_eq_true.mp hm.2 b (List.mem_of_getElem? hb)
    have h2 := List.all_eq_true.mp h1 E (List.mem_of_find?_eq_some hf)
    have h3 := List.find?_some hf
    exact ⟨h2, by simpa using h3⟩
  · cases hf
theorem hSl_mono {K K' : List Nat} (h : K <+: K') : hSl K ≤ hSl K' := by
  obtain ⟨t, rfl⟩ := h
  simp [hSl]
/-- what holds ahead of a method -/
def hHp (D : va_G) (cs : ClassId × ClassId × ClassId) (h0 : Nat) (S : hS) (U : State) : Prop := U.heap.size = h0 + S.1.length ∧ va_P D vwCl (hWd h0 cs S) U.heap ∧ va_K D vwCl (hTys cs) U ∧ (∀ w ∈ lw_tbl, hNest w = true → va_Nw w U) ∧ va_AO "HeldBlades$Moment" U
/-- what holds behind it -/
def hQ (D : va_G) (cs : ClassId × ClassId × ClassId) (h0 : Nat) (o : Option Int32) (S : hS) : Array Value → State → Outcome → State → Prop := match o with
  | some x => va_Qi (fun r (_ : Unit) => r = x) (fun _ t => va_P D vwCl (hWd h0 cs S) t.heap) (fun q => h0 ≤ q)
  | none => va_Qv (fun (_ : Unit) => True) (fun _ t => va_P D vwCl (hWd h0 cs S) t.heap) (fun q => h0 ≤ q)
def hWs (I : hI) : List Cond := Cond.code I.1 I.2.1 I.2.2.1 I.2.2.2.1 :: hBase
def hRm (I : hI) (mc ms : Nat) : Room := { frames := I.2.2.2.2.1, cells := mc, slots := ms, locals := 40 * I.2.2.2.2.1 }
theorem hMetW {l : Launch} {y : MethodName} {ws ws' : List Cond} {rm : Room} {Pc : Array Value → State → Prop} {Qc : Array Value → State → Outcome → State → Prop} {mc ms : Nat} {free : Addr → Prop} {cc : ByteArray} {maxL : Nat} {ret : Option FieldType}
    (hy : plainFor y = true) (hw : ws = Cond.code y cc maxL ret :: ws')
    (body : ∀ p e s m args below meth c s₁, BodyLoose p l y (headSpec ws rm) cc maxL ret e s m args below meth c s₁ → c.maxLocals = maxL → Pc args s →
      W p l e (headSpec ws rm).room s m args below meth c s.heap [] 0 0 (MQ below Qc args s mc ms free) (entryFrame m args maxL)) : Met l y ws rm Pc Qc mc ms free := by
  refine MetFree.of_bodySF (code := cc) (maxLocals := maxL) (ret := ret) hy ?_ ?_
  · intro args s m h hn
    obtain ⟨meth, c, g1, g2, g3, g4, g5, g6, -, -⟩ := Cond.code_spec hn (atoms_spec (ws := ws) h _ (by rw [hw]; exact List.mem_cons_self))
    exact ⟨meth, c, g1, g2, g3, g4, g5, g6⟩
  · intro p e s m args below meth c s₁ B hml hP _
    have hh0 : s₁.heap = s.heap := by rw [B.state]; rfl
    obtain ⟨t, a1, o, b1, b2, b3⟩ := body p e s m args below meth c s₁ B hml hP s₁ hh0 (Stand.of_body B)
    exact ⟨t, o, a1, b1, b2, ⟨b3.1, b3.2⟩⟩
theorem hPlain {I : hI} (h : hChkW I = true) : plainFor I.1 = true := by
  simp only [hChkW, Bool.and_eq_true, decide_eq_true_eq] at h
  exact h.1.1.1.1.2
theorem hMet {l : Launch} {D : va_G} {cs : ClassId × ClassId × ClassId} {h0 : Nat} {I : hI} {S S' : hS} {as : List hV} {o : Option Int32} {mc ms : Nat} (hp : plainFor I.1 = true) (hlen : as.length ≤ I.2.2.1) (h1 : S.1.length + mc = S'.1.length) (h2 : hSl S.1 + ms = hSl S'.1)
    (k : ∀ (p : Program) (e : Env) (R : Room) (s : State) (m : MethodId) (args : Array Value) (below : List Frame) (meth : Method) (c0 : Code), R.cells = mc → R.slots = ms → hX D cs h0 S.1.length I p R s m args meth c0 → hG D cs h0 S.1.length (hSl S.1) I p l e R s m args below meth c0 (MQ below (hQ D cs h0 o S') args s mc ms (fun q => h0 ≤ q)) 0 (hInit I.2.2.1 as) [] S) :
    Met l I.1 (hWs I) (hRm I mc ms) (va_Pc (as.map (hvv h0)) (hHp D cs h0 S)) (hQ D cs h0 o S') mc ms (fun q => h0 ≤ q) := by
  refine hMetW (cc := I.2.1) (maxL := I.2.2.1) (ret := I.2.2.2.1) hp rfl ?_
  intro p e s m args below meth c s₁ B hml hv
  obtain ⟨rfl, hsz, hP, hK, hN, hAO⟩ := hv
  have hts := atoms_spec (ws := hWs I) B.pre
  have hown : s.vm.findClass I.1.cls = some m.cls := findClass_of_methodNamed B.named
  have hin : meth.name = I.1.name := (name_of_methodNamed B.named B.method).1
  have hx : hX D cs h0 S.1.length I p (headSpec (hWs I) (hRm I mc ms)).room s m (as.map (hvv h0)).toArray meth c :=
    ⟨⟨B.exec, B.bytes, B.returns, hml, hown, fun w hw => hts w (List.mem_cons_of_mem _ hw), B.notSynchronized, hin⟩, hK, hN, hAO, hsz, rfl, rfl⟩
  rw [lg_entry_eq]
  exact k p e _ s m _ below meth c rfl rfl hx s.heap [] 0 0 _ (hLc_entry hlen) hP va_S.rf rfl rfl
theorem hBlind {D : va_G} {cs : ClassId × ClassId × ClassId} {h0 : Nat} {S : hS} {av : List Value} : FrameBlind (va_Pc av (hHp D cs h0 S)) := by
  intro a U g mk h
  obtain ⟨q0, q1, qP, qK, qN, qA⟩ := h
  exact ⟨q0, q1, qP, va_K.moved (u := U) (U := U.calling g mk a) (Vm.Alike.refl U.vm) qK, fun w hw hn => by
    cases w <;> first | (cases hn; done) | exact va_Nw.same rfl rfl (qN _ hw rfl), va_AO.moved (u := U) (U := U.calling g mk a) (Vm.Alike.refl U.vm) qA⟩
theorem hNwarm {s U : State} (hW : s.WarmedH U.vm) (hN : ∀ w ∈ lw_tbl, hNest w = true → va_Nw w s) : ∀ w ∈ lw_tbl, hNest w = true → va_Nw w U := by
  intro w hw hn
  cases w <;> first | (cases hn; done) | exact va_Nw.warmF hW (hN _ hw rfl) | exact va_Nw.warmM hW (hN _ hw rfl)
theorem hGood {ws : List Cond} (h : ∀ w ∈ ws, w ∈ hBase) : GoodIn hBase ws := fun w hw => ⟨h w hw, good_of_word (List.mem_filter.mp (h w hw)).2⟩
theorem hIn {q : Nat} {w : Cond} (h : lw_tbl[q]? = some w) (hg : goodWord w = true) : w ∈ hBase := List.mem_filter.mpr ⟨List.mem_of_getElem? h, hg⟩
/-- the heap is as large as the world -/
theorem hHs {D : va_G} {cs : ClassId × ClassId × ClassId} {h0 n0 cells : Nat} {S : hS} {s : State} {H : Heap} {locs : List Loc} (hP : va_P D vwCl (hWd h0 cs S) H) (hS : va_S (fun q => h0 ≤ q) s.heap H locs) (hsz : s.heap.size = h0 + n0) (hn : n0 + cells = S.1.length) (hs : H.size ≤ s.heap.size + cells) : H.size = h0 + S.1.length := by
  rcases Nat.eq_zero_or_pos S.1.length with h | h
  · have := hS.1
    omega
  · obtain ⟨k, hk⟩ : ∃ k, S.1[S.1.length - 1]? = some k := ⟨_, List.getElem?_eq_getElem (by omega)⟩
    have h1 := (hP _ _ (hWd_at (h0 := h0) (cs := cs) hk)).lt
    have h1 : h0 + (S.1.length - 1) < H.size := h1
    omega
end
section
/-! Calls, and the whole: what the machine runs, the JVM runs. -/
theorem hArgL : hInf.all (fun J => match (parseMethodDescriptor J.1.desc).map (fun d => d.parameters.length) with
  | some n => decide (n + (if J.2.2.2.2.2.2.2.2.2 = 0 then 0 else 1) ≤ J.2.2.1)
  | none => true) = true := by decide +kernel
/-- what the tables say of a callee -/
theorem hCee {I J : hI} {a b q idx d kind : Nat} {v : Int32} (hc : hChkC I a b q idx d kind v = true) (hJ : hInf[a]? = some J) : J.2.2.2.2.1 < I.2.2.2.2.1 ∧ (lw_tbl[q]? = some (.methodLink I.1.cls idx J.1) ∨ lw_tbl[q]? = some (.methodLinkNest I.1.cls idx J.1 "HeldBlades")) ∧ (parseMethodDescriptor J.1.desc).map (fun d => d.parameters.length) = some b ∧ J.2.2.2.2.2.2.2.2.2 = kind ∧ (kind = 0 ∨ (d < 11 ∧ J.1.cls = hR d)) := by
  unfold hChkC at hc
  rw [hJ] at hc
  simp only [Bool.and_eq_true, Bool.or_eq_true, decide_eq_true_eq] at hc
  obtain ⟨⟨⟨⟨⟨c1, c2⟩, c3⟩, c4⟩, c5⟩, -⟩ := hc
  exact ⟨c1, c2, c3, c4, c5⟩
theorem hCeeE {I : hI} {a b q idx d kind : Nat} {v : Int32} (hc : hChkC I a b q idx d kind v = true) : ∃ J, hInf[a]? = some J := by
  unfold hChkC at hc
  cases h : hInf[a]? with
  | none => rw [h] at hc; cases hc
  | some J => exact ⟨J, rfl⟩
theorem hCeeL {J : hI} {a b : Nat} (hJ : hInf[a]? = some J) (hb : (parseMethodDescriptor J.1.desc).map (fun d => d.parameters.length) = some b) : b + (if J.2.2.2.2.2.2.2.2.2 = 0 then 0 else 1) ≤ J.2.2.1 := by
  have h := List.all_eq_true.mp hArgL J (List.mem_of_getElem? hJ)
  rw [hb] at h
  simpa using h
/-- what a method's own words are -/
theorem hOwn {a : Nat} {J : hI} (hJ : hInf[a]? = some J) : plainFor J.1 = true ∧ Cond.code J.1 J.2.1 J.2.2.1 J.2.2.2.1 ∈ hBase ∧ Cond.initialized J.1.cls ∈ hBase ∧ J.1.cls ≠ "java/lang/invoke/MethodHandle" ∧ J.1.cls ≠ "java/lang/invoke/VarHandle" ∧ J.2.2.1 ≤ 20 ∧ (J.2.2.2.2.2.2.2.2.2 = 0 → Cond.static J.1 ∈ hBase) ∧ (J.2.2.2.2.2.2.2.2.2 = 1 → Cond.instanceMethod J.1 ∈ hBase ∧ Cond.selects J.1.cls J.1 J.1 ∈ hBase) ∧ (J.2.2.2.2.2.2.2.2.2 = 2 → Cond.instanceMethod J.1 ∈ hBase ∧ J.1.name = "<init>" ∧ J.2.2.2.1 = none) := by
  have hm := hAll hJ
  simp only [hChkM, Bool.and_eq_true] at hm
  have hw := hm.1.2
  simp only [hChkW, Bool.and_eq_true, decide_eq_true_eq] at hw
  obtain ⟨⟨⟨⟨⟨⟨w1, w2⟩, w3⟩, w4⟩, w5⟩, w6⟩, w7⟩ := hw
  refine ⟨w3, hIn w1 rfl, hIn w2 rfl, w4, w5, w6, fun h => ?_, fun h => ?_, fun h => ?_⟩
  · rw [h] at w7
    exact hIn (of_decide_eq_true w7) rfl
  · rw [h] at w7
    simp only [Bool.and_eq_true, decide_eq_true_eq] at w7
    exact ⟨hIn w7.1 rfl, hIn w7.2 rfl⟩
  · rw [h] at w7
    simp only [Bool.and_eq_true, decide_eq_true_eq] at w7
    exact ⟨hIn w7.1.1 rfl, w7.1.2, w7.2⟩
theorem goodIn_s8 {own : String} {idx : Nat} {y : MethodName} {ws : List Cond} (a : Cond.methodLink own idx y ∈ hBase) (b : Cond.static y ∈ hBase) (c : Cond.initialized y.cls ∈ hBase) (h : GoodIn hBase ws) : GoodIn hBase (va_wsS own idx y ws) := by
  have g : ∀ w ∈ [Cond.methodLink own idx y, Cond.static y, Cond.initialized y.cls], w ∈ hBase := by
    intro w hw
    simp only [List.mem_cons, List.not_mem_nil, or_false] at hw
    rcases hw with rfl | rfl | rfl
    · exact a
    · exact b
    · exact c
  intro w hw
  unfold va_wsS at hw
  rcases List.mem_append.mp hw with hw | hw
  · exact hGood g w hw
  · exact h w hw
theorem goodIn_v8 {own : String} {idx : Nat} {y : MethodName} {ws : List Cond} (a : Cond.methodLink own idx y ∈ hBase) (b : Cond.instanceMethod y ∈ hBase) (c : Cond.selects y.cls y y ∈ hBase) (d : Cond.initialized y.cls ∈ hBase) (h : GoodIn hBase ws) : GoodIn hBase (wsV own idx y.cls y ws) := by
  have g : ∀ w ∈ [Cond.methodLink own idx y, Cond.instanceMethod y, Cond.selects y.cls y y, Cond.initialized y.cls], w ∈ hBase := by
    intro w hw
    simp only [List.mem_cons, List.not_mem_nil, or_false] at hw
    rcases hw with rfl | rfl | rfl | rfl
    · exact a
    · exact b
    · exact c
    · exact d
  intro w hw
  unfold wsV at hw
  rcases List.mem_append.mp hw with hw | hw
  · exact hGood g w hw
  · exact h w hw
theorem hFin {p : Program} {l : Launch} {e : Env} {R : Room} {s : State} {m : MethodId} {args : Array Value} {below : List Frame} {meth : Method} {c : Code} {H : Heap} {locs : List Loc} {cells slots : Nat} {Q : State → Prop} {pc : Nat} {ls : Array Slot} {st0 : List Value} {a : Array Value} {mc ms : Nat} {D : va_G} {cs : ClassId × ClassId × ClassId} {h0 : Nat} {o : Option Int32} {S1 : hS} {r : List hV}
    (hr : va_Run p l e R s m args below meth c H locs cells slots mc ms (F0 m pc ls st0) (r.map (hvv h0)) (hQ D cs h0 o S1 a) (fun q => h0 ≤ q)) (hS : va_S (fun q => h0 ≤ q) s.heap H locs)
    (k : ∀ (H1 : Heap) (locs1 : List Loc), va_P D vwCl (hWd h0 cs S1) H1 → va_S (fun q => h0 ≤ q) s.heap H1 locs1 → W p l e R s m args below meth c H1 locs1 (cells + mc) (slots + ms) Q (F0 m (pc + 3) ls ((o.toList.map Sum.inl ++ r).map (hvv h0)))) : W p l e R s m args below meth c H locs cells slots Q (F0 m pc ls st0) := by
  cases o with
  | none => exact va_callv (a := a) hr hS (fun _ _ h => h) (fun _ h => h) (fun u t H1 locs1 ht hvm hw hB hz1 hk1 hS1 => k H1 locs1 (by rw [← ht]; exact hB) hS1)
  | some x => exact va_calli (a := a) hr hS (fun _ _ h => h) (fun _ h => h) (fun z u t H1 locs1 ht hvm hw hB hz1 hk1 hS1 => by subst hw; exact k H1 locs1 (by rw [← ht]; exact hB) hS1)
theorem hTake (st : List hV) (b : Nat) (h0 : Nat) : st.map (hvv h0) = (((st.take b).reverse).map (hvv h0)).reverse ++ (st.drop b).map (hvv h0) := by
  rw [← List.map_reverse, List.reverse_reverse, ← List.map_append, List.take_append_drop]
set_option maxHeartbeats 4000000 in
/-- a call's arguments -/
theorem hCallP {I : hI} {E : hE} {L : List (Option hV)} {st : List hV} {S : hS} {y : Nat} {as : List hV} {nx : Nat} {r : List hV} {vf : Bool} (hc : hChkE I E = true) (ha : hAct E L st S = some (.inr (.inl (y, as, nx, r, vf)))) (ok : okF S L st) : ∃ J, hInf[y]? = some J ∧ as.length ≤ J.2.2.1 ∧ (∀ v ∈ as, okv S v) ∧ (∀ v ∈ r, okv S v) := by
  obtain ⟨pc, i, nx', a, b, d, q, v⟩ := E
  simp only [hChkE, Bool.and_eq_true, decide_eq_true_eq] at hc
  obtain ⟨hd, hc⟩ := hc
  have okT : ∀ v ∈ (st.take b).reverse, okv S v := fun v hv => ok.2.2 v (List.mem_of_mem_take (List.mem_reverse.mp hv))
  have okD : ∀ v ∈ st.drop b, okv S v := fun v hv => ok.2.2 v (List.mem_of_mem_drop hv)
  cases i with
  | invokestatic idx =>
    simp only [hChkI, Bool.and_eq_true, decide_eq_true_eq] at hc
    obtain ⟨-, hc⟩ := hc
    dsimp only [hAct] at ha
    split at ha
    · split at ha
      · split at ha <;> cases ha
      · cases ha
    · rename_i h9
      rw [if_neg h9] at hc
      split at ha
      · rename_i hh
        cases ha
        obtain ⟨J, hJ⟩ := hCeeE hc
        obtain ⟨-, -, c3, c4, -⟩ := hCee hc hJ
        have h5 := hCeeL hJ c3
        rw [if_pos c4] at h5
        exact ⟨J, hJ, by rw [List.length_reverse, hh.1]; omega, okT, okD⟩
      · cases ha
  | invokevirtual idx =>
    simp only [hChkI, Bool.and_eq_true, decide_eq_true_eq] at hc
    obtain ⟨-, hc⟩ := hc
    dsimp only [hAct] at ha
    split at ha
    · rename_i k c r' hdr
      split at ha
      · rename_i hh
        cases ha
        obtain ⟨J, hJ⟩ := hCeeE hc
        obtain ⟨-, -, c3, c4, -⟩ := hCee hc hJ
        have h5 := hCeeL hJ c3
        rw [if_neg (by rw [c4]; decide)] at h5
        refine ⟨J, hJ, by rw [List.length_cons, List.length_reverse, hh.2.1]; omega, fun v hv => ?_, fun v hv => okD v (by rw [hdr]; exact List.mem_cons_of_mem _ hv)⟩
        rcases List.mem_cons.mp hv with rfl | hv
        · exact okD _ (by rw [hdr]; exact List.mem_cons_self)
        · exact okT v hv
      · cases ha
    · cases ha
  | invokespecial idx =>
    simp only [hChkI, Bool.and_eq_true, decide_eq_true_eq] at hc
    obtain ⟨-, hc⟩ := hc
    dsimp only [hAct] at ha
    split at ha
    · split at ha
      · split at ha <;> cases ha
      · cases ha
    · rename_i h9
      rw [if_neg h9] at hc
      split at ha
      · rename_i k c r' hdr
        split at ha
        · rename_i hh
          cases ha
          obtain ⟨J, hJ⟩ := hCeeE hc
          obtain ⟨-, -, c3, c4, -⟩ := hCee hc hJ
          have h5 := hCeeL hJ c3
          rw [if_neg (by rw [c4]; decide)] at h5
          refine ⟨J, hJ, by rw [List.length_cons, List.length_reverse, hh.2.1]; omega, fun v hv => ?_, fun v hv => okD v (by rw [hdr]; exact List.mem_cons_of_mem _ hv)⟩
          rcases List.mem_cons.mp hv with rfl | hv
          · exact okD _ (by rw [hdr]; exact List.mem_cons_self)
          · exact okT v hv
        · cases ha
      · cases ha
  | _ =>
    exfalso
    first
      | (cases ha; done)
      | (dsimp only [hAct] at ha; obtain ⟨_, _, _, _, ha9⟩ := h2_some ha; first | (cases ha9; done) | (split at ha9 <;> cases ha9))
      | (dsimp only [hAct] at ha; obtain ⟨_, _, _, ha9⟩ := h1_some ha; first | (cases ha9; done) | (dsimp only [hPush] at ha9; split at ha9 <;> cases ha9))
      | (dsimp only [hAct] at ha; obtain ⟨_, _, _, _, ha9⟩ := hr_some ha; first | (cases ha9; done) | (split at ha9 <;> cases ha9))
      | (dsimp only [hAct] at ha; obtain ⟨_, _, _, _, _, ha9⟩ := hir_some ha; first | (cases ha9; done) | (split at ha9 <;> cases ha9))
      | (dsimp only [hAct] at ha; split at ha <;> (obtain ⟨_, _, _, _, ha9⟩ := hr_some ha; split at ha9 <;> cases ha9))
      | (dsimp only [hAct] at ha; split at ha <;> first | (cases ha; done) | (split at ha <;> first | (cases ha; done) | (split at ha <;> cases ha)))
set_option maxHeartbeats 4000000 in
/-- a call on the JVM -/
theorem hCall {D : va_G} {cs : ClassId × ClassId × ClassId} {h0 n0 z0 : Nat} {I : hI} {p : Program} {l : Launch} {e : Env} {R : Room} {s : State} {m : MethodId} {args : Array Value} {below : List Frame} {meth : Method} {c0 : Code} {Q : State → Prop} {E : hE} {L : List (Option hV)} {st : List hV} {S S1 : hS} {y : Nat} {as : List hV} {nx : Nat} {r : List hV} {vf : Bool} {o : Option Int32} {J : hI} {mc ms : Nat} (hx : hX D cs h0 n0 I p R s m args meth c0) (hc : hChkE I E = true) (ha : hAct E L st S = some (.inr (.inl (y, as, nx, r, vf)))) (ok : okF S L st) (hJ : hInf[y]? = some J)
    (hM : Met l J.1 (hWs J) (hRm J mc ms) (va_Pc (as.map (hvv h0)) (hHp D cs h0 S)) (hQ D cs h0 o S1) mc ms (fun q => h0 ≤ q)) (e1 : S.1.length + mc = S1.1.length) (e2 : hSl S.1 + ms = hSl S1.1) (e3 : S1.1.length ≤ n0 + R.cells) (e4 : hSl S1.1 ≤ z0 + R.slots)
    (k : hG D cs h0 n0 z0 I p l e R s m args below meth c0 Q nx L (o.toList.map Sum.inl ++ r) S1) : hG D cs h0 n0 z0 I p l e R s m args below meth c0 Q E.1 L st S := by
  obtain ⟨pc, i, nx', a, b, d, q, v⟩ := E
  simp only [hChkE, Bool.and_eq_true, decide_eq_true_eq] at hc
  obtain ⟨hd, hc⟩ := hc
  obtain ⟨⟨hx1, hb, hret, hml, hown, hts, hlk, hnm⟩, hK, hN, hAO, hsz, hfr, hlo⟩ := hx
  have okD : ∀ v ∈ st.drop b, okv S v := fun v hv => ok.2.2 v (List.mem_of_mem_drop hv)
  obtain ⟨o1, o2, o3, o4, o5, o6, o7, o8, o9⟩ := hOwn hJ
  have hGd : GoodIn hBase (hWs J) := hGood (fun w hw => by
    rcases List.mem_cons.mp hw with rfl | hw
    · exact o2
    · exact hw)
  have hPre : ∀ {H : Heap} {locs : List Loc} {cells : Nat}, va_P D vwCl (hWd h0 cs S) H → va_S (fun q => h0 ≤ q) s.heap H locs → n0 + cells = S.1.length → H.size ≤ s.heap.size + cells → ∀ U : State, U.heap = H → s.WarmedH U.vm → va_Pc (as.map (hvv h0)) (hHp D cs h0 S) (as.map (hvv h0)).toArray U := by
    intro H locs cells hP hS hn hs U hU hW
    exact ⟨rfl, by rw [hU]; exact hHs hP hS hsz hn hs, by rw [hU]; exact hP, va_K.moved hW.alike hK, hNwarm hW hN, va_AO.moved hW.alike hAO⟩
  cases i with
  | invokestatic idx =>
    simp only [hChkI, Bool.and_eq_true, decide_eq_true_eq] at hc
    obtain ⟨rfl, hc⟩ := hc
    rw [Nat.add_sub_cancel_left] at hd
    dsimp only [hAct] at ha
    split at ha
    · split at ha
      · split at ha <;> cases ha
      · cases ha
    · rename_i h9
      rw [if_neg h9] at hc
      split at ha
      · rename_i hh
        cases ha
        obtain ⟨c1, c2, c3, c4, -⟩ := hCee hc hJ
        intro H locs cells slots ls hl hP hS hn hz
        refine hSize (fun hs9 => ?_)
        have hR : (hRm J mc ms).frames + 1 ≤ R.frames ∧ 8 + (J.2.2.1 + 11) + (hRm J mc ms).locals ≤ R.locals := by
          refine ⟨?_, ?_⟩
          · show J.2.2.2.2.1 + 1 ≤ R.frames; omega
          · show 8 + (J.2.2.1 + 11) + 40 * J.2.2.2.2.1 ≤ R.locals; omega
        refine hFin (a := (((st.take b).reverse).map (hvv h0)).toArray) ?_ hS (fun H1 locs1 hP1 hS1 => k H1 locs1 (cells + mc) (slots + ms) ls hl hP1 hS1 (by omega) (by omega))
        rcases c2 with c2 | c2
        · exact va_runS (As := (st.take b).reverse.map (hvv h0)) (rest := (st.drop b).map (hvv h0)) ⟨hx1, hb, hml, hown, hts⟩ hM (va_cwS b hts (goodIn_s8 (hIn c2 rfl) (o7 c4) o3 hGd) rfl rfl rfl ⟨o4, o5, c3⟩ hR) ⟨hBlind, hPre hP hS hn hs9⟩ rfl (by rw [List.length_map, List.length_reverse]; exact hh.1) hl.1 (hTake st b h0) (lv_room (by rw [hSum]; exact hh.2)) hd ⟨by omega, by omega⟩
        · exact va_runSN (As := (st.take b).reverse.map (hvv h0)) (rest := (st.drop b).map (hvv h0)) (host := "HeldBlades") ⟨hx1, hb, hml, hown, hts⟩ hM ⟨va_cnB b hts hGd rfl rfl rfl (hN _ (List.mem_of_getElem? c2) rfl) (hts _ o3) ⟨o4, o5, c3⟩ hR, hts _ (o7 c4), trivial⟩ ⟨hBlind, hPre hP hS hn hs9⟩ rfl (by rw [List.length_map, List.length_reverse]; exact hh.1) hl.1 (hTake st b h0) (lv_room (by rw [hSum]; exact hh.2)) hd ⟨by omega, by omega⟩
      · cases ha
  | invokevirtual idx =>
    simp only [hChkI, Bool.and_eq_true, decide_eq_true_eq] at hc
    obtain ⟨rfl, hc⟩ := hc
    rw [Nat.add_sub_cancel_left] at hd
    dsimp only [hAct] at ha
    split at ha
    · rename_i k9 c r' hdr
      split at ha
      · rename_i hh
        cases ha
        obtain ⟨c1, c2, c3, c4, c5⟩ := hCee hc hJ
        have c5 : d < 11 ∧ J.1.cls = hR d := by
          rcases c5 with h | h
          · cases h
          · exact h
        intro H locs cells slots ls hl hP hS hn hz
        refine hSize (fun hs9 => ?_)
        have hR' : (hRm J mc ms).frames + 1 ≤ R.frames ∧ 8 + (J.2.2.1 + 11) + (hRm J mc ms).locals ≤ R.locals := by
          refine ⟨?_, ?_⟩
          · show J.2.2.2.2.1 + 1 ≤ R.frames; omega
          · show 8 + (J.2.2.1 + 11) + 40 * J.2.2.2.2.1 ≤ R.locals; omega
        have hkd := hh.1
        subst hkd
        have hrc : S.1[c]? = some k9 := okD (.inr (some (k9, c))) (by rw [hdr]; exact List.mem_cons_self)
        have hst : st.map (hvv h0) = (((st.take b).reverse).map (hvv h0)).reverse ++ .ref (h0 + c) :: r.map (hvv h0) := by rw [hTake st b h0, hdr]; rfl
        have hcell := va_recv hK hP (hCls c5.1).1 (hWd_o hrc c5.1)
        refine hFin (a := (Value.ref (h0 + c) :: ((st.take b).reverse).map (hvv h0)).toArray) ?_ hS (fun H1 locs1 hP1 hS1 => k H1 locs1 (cells + mc) (slots + ms) ls hl hP1 hS1 (by omega) (by omega))
        rcases c2 with c2 | c2
        · exact va_runV (C := J.1.cls) (b := h0 + c) (As := (st.take b).reverse.map (hvv h0)) (rest := r.map (hvv h0)) ⟨hx1, hb, hml, hown, hts⟩ hM (cwV b hts (goodIn_v8 (hIn c2 rfl) (o8 c4).1 (o8 c4).2 o3 hGd) rfl rfl rfl ⟨rfl, o4, o5, c3⟩ hR') ⟨hBlind, by rw [c5.2]; exact hcell, hPre hP hS hn hs9⟩ rfl (by rw [List.length_map, List.length_reverse]; exact hh.2.1) hl.1 hst (lv_room (by rw [hSum]; exact hh.2.2)) hd ⟨by omega, by omega⟩
        · exact va_runVN (C := J.1.cls) (b := h0 + c) (As := (st.take b).reverse.map (hvv h0)) (rest := r.map (hvv h0)) (host := "HeldBlades") ⟨hx1, hb, hml, hown, hts⟩ hM ⟨va_cnB b hts hGd rfl rfl rfl (hN _ (List.mem_of_getElem? c2) rfl) (hts _ o3) ⟨o4, o5, c3⟩ hR', hts _ (o8 c4).1, hts _ (o8 c4).2⟩ ⟨hBlind, by rw [c5.2]; exact hcell, hPre hP hS hn hs9⟩ rfl (by rw [List.length_map, List.length_reverse]; exact hh.2.1) hl.1 hst (lv_room (by rw [hSum]; exact hh.2.2)) hd ⟨by omega, by omega⟩
      · cases ha
    · cases ha
  | invokespecial idx =>
    simp only [hChkI, Bool.and_eq_true, decide_eq_true_eq] at hc
    obtain ⟨rfl, hc⟩ := hc
    rw [Nat.add_sub_cancel_left] at hd
    dsimp only [hAct] at ha
    split at ha
    · split at ha
      · split at ha <;> cases ha
      · cases ha
    · rename_i h9
      rw [if_neg h9] at hc
      split at ha
      · rename_i k9 c r' hdr
        split at ha
        · rename_i hh
          cases ha
          obtain ⟨c1, c2, c3, c4, c5⟩ := hCee hc hJ
          obtain ⟨p1, p2, p3⟩ := o9 c4
          intro H locs cells slots ls hl hP hS hn hz
          refine hSize (fun hs9 => ?_)
          have hR' : (hRm J mc ms).frames + 1 ≤ R.frames ∧ 8 + (J.2.2.1 + 11) + (hRm J mc ms).locals ≤ R.locals := by
            refine ⟨?_, ?_⟩
            · show J.2.2.2.2.1 + 1 ≤ R.frames; omega
            · show 8 + (J.2.2.1 + 11) + 40 * J.2.2.2.2.1 ≤ R.locals; omega
          have hst : st.map (hvv h0) = (((st.take b).reverse).map (hvv h0)).reverse ++ .ref (h0 + c) :: r.map (hvv h0) := by rw [hTake st b h0, hdr]; rfl
          have hws : hWs J = Cond.code J.1 J.2.1 J.2.2.1 none :: hBase := by unfold hWs; rw [p3]
          refine hFin (a := (Value.ref (h0 + c) :: ((st.take b).reverse).map (hvv h0)).toArray) ?_ hS (fun H1 locs1 hP1 hS1 => k H1 locs1 (cells + mc) (slots + ms) ls hl hP1 hS1 (by omega) (by omega))
          rcases c2 with c2 | c2
          · exact va_runI (b := h0 + c) (As := (st.take b).reverse.map (hvv h0)) (rest := r.map (hvv h0)) ⟨hx1, hb, hml, hown, hts⟩ hM (cwI b hts hGd hws rfl rfl (hts _ o3) (hWord hts c2 rfl) (hts _ p1) p2 ⟨o4, o5, c3⟩ hR') ⟨hBlind, hPre hP hS hn hs9⟩ rfl (by rw [List.length_map, List.length_reverse]; exact hh.2.1) hl.1 hst (lv_room (by rw [hSum]; exact hh.2.2)) hd ⟨by omega, by omega⟩
          · exact va_runIN (b := h0 + c) (As := (st.take b).reverse.map (hvv h0)) (rest := r.map (hvv h0)) (host := "HeldBlades") ⟨hx1, hb, hml, hown, hts⟩ hM ⟨va_cnB b hts hGd hws rfl rfl (hN _ (List.mem_of_getElem? c2) rfl) (hts _ o3) ⟨o4, o5, c3⟩ hR', p2, hts _ p1⟩ ⟨hBlind, hPre hP hS hn hs9⟩ rfl (by rw [List.length_map, List.length_reverse]; exact hh.2.1) hl.1 hst (lv_room (by rw [hSum]; exact hh.2.2)) hd ⟨by omega, by omega⟩
        · cases ha
      · cases ha
  | _ =>
    exfalso
    first
      | (cases ha; done)
      | (dsimp only [hAct] at ha; obtain ⟨_, _, _, _, ha9⟩ := h2_some ha; first | (cases ha9; done) | (split at ha9 <;> cases ha9))
      | (dsimp only [hAct] at ha; obtain ⟨_, _, _, ha9⟩ := h1_some ha; first | (cases ha9; done) | (dsimp only [hPush] at ha9; split at ha9 <;> cases ha9))
      | (dsimp only [hAct] at ha; obtain ⟨_, _, _, _, ha9⟩ := hr_some ha; first | (cases ha9; done) | (split at ha9 <;> cases ha9))
      | (dsimp only [hAct] at ha; obtain ⟨_, _, _, _, _, ha9⟩ := hir_some ha; first | (cases ha9; done) | (split at ha9 <;> cases ha9))
      | (dsimp only [hAct] at ha; split at ha <;> (obtain ⟨_, _, _, _, ha9⟩ := hr_some ha; split at ha9 <;> cases ha9))
      | (dsimp only [hAct] at ha; split at ha <;> first | (cases ha; done) | (split at ha <;> first | (cases ha; done) | (split at ha <;> cases ha)))
set_option maxHeartbeats 4000000 in
/-- a return on the JVM -/
theorem hRet {D : va_G} {cs : ClassId × ClassId × ClassId} {h0 n0 z0 : Nat} {I : hI} {p : Program} {l : Launch} {e : Env} {R : Room} {s : State} {m : MethodId} {args : Array Value} {below : List Frame} {meth : Method} {c0 : Code} {E : hE} {L : List (Option hV)} {st : List hV} {S : hS} {o : Option Int32} (hx : hX D cs h0 n0 I p R s m args meth c0) (hc : hChkE I E = true) (ha : hAct E L st S = some (.inr (.inr o))) (k1 : n0 + R.cells = S.1.length) (k2 : z0 + R.slots = hSl S.1) : hG D cs h0 n0 z0 I p l e R s m args below meth c0 (MQ below (hQ D cs h0 o S) args s R.cells R.slots (fun q => h0 ≤ q)) E.1 L st S := by
  obtain ⟨pc, i, nx', a, b, d, q, v⟩ := E
  simp only [hChkE, Bool.and_eq_true, decide_eq_true_eq] at hc
  obtain ⟨hd, hc⟩ := hc
  obtain ⟨⟨hx1, hb, hret, hml, hown, hts, hlk, hnm⟩, hK, hN, hAO, hsz, hfr, hlo⟩ := hx
  cases i with
  | ireturn =>
    simp only [hChkI, Bool.and_eq_true, decide_eq_true_eq] at hc
    obtain ⟨rfl, hc⟩ := hc
    rw [Nat.add_sub_cancel_left] at hd
    dsimp only [hAct] at ha
    split at ha
    · rename_i x
      split at ha
      · rename_i hd2
        subst hd2
        try dsimp only at hc
        have hc := of_decide_eq_true hc
        split at ha
        · rename_i hbx
          cases ha
          intro H locs cells slots ls hl hP hS hn hz
          have e1 : cells = R.cells := by omega
          have e2 : slots = R.slots := by omega
          subst e1; subst e2
          exact W.zret (v := x) hx1 hb (hret.trans hc) (hB_nar hbx).1 (fun t ht hW => ⟨⟨x, (), rfl, rfl, by show va_P _ _ _ t.heap; rw [ht]; exact hP⟩, hS.F ht⟩) hS.2.2 hd hlk
        · cases ha
      · rename_i hd2
        cases ha
        have hc : I.2.2.2.1 = some .int := by
          split at hc
          · exact of_decide_eq_true hc
          · exact absurd rfl hd2
          · cases hc
        intro H locs cells slots ls hl hP hS hn hz
        have e1 : cells = R.cells := by omega
        have e2 : slots = R.slots := by omega
        subst e1; subst e2
        exact W.iret (v := x) hx1 hb (hret.trans hc) (fun t ht hW => ⟨⟨x, (), rfl, rfl, by show va_P _ _ _ t.heap; rw [ht]; exact hP⟩, hS.F ht⟩) hS.2.2 hd hlk
    · cases ha
  | return_ =>
    simp only [hChkI, Bool.and_eq_true, decide_eq_true_eq] at hc
    obtain ⟨rfl, hc⟩ := hc
    rw [Nat.add_sub_cancel_left] at hd
    dsimp only [hAct] at ha
    split at ha
    · cases ha
      intro H locs cells slots ls hl hP hS hn hz
      have e1 : cells = R.cells := by omega
      have e2 : slots = R.slots := by omega
      subst e1; subst e2
      exact W.vret hx1 hb (hret.trans hc) (fun t ht hW => ⟨⟨(), rfl, trivial, by show va_P _ _ _ t.heap; rw [ht]; exact hP⟩, hS.F ht⟩) hS.2.2 hd hlk
    · cases ha
  | _ =>
    exfalso
    first
      | (cases ha; done)
      | (dsimp only [hAct] at ha; obtain ⟨_, _, _, _, ha9⟩ := h2_some ha; first | (cases ha9; done) | (split at ha9 <;> cases ha9))
      | (dsimp only [hAct] at ha; obtain ⟨_, _, _, ha9⟩ := h1_some ha; first | (cases ha9; done) | (dsimp only [hPush] at ha9; split at ha9 <;> cases ha9))
      | (dsimp only [hAct] at ha; obtain ⟨_, _, _, _, ha9⟩ := hr_some ha; first | (cases ha9; done) | (split at ha9 <;> cases ha9))
      | (dsimp only [hAct] at ha; obtain ⟨_, _, _, _, _, ha9⟩ := hir_some ha; first | (cases ha9; done) | (split at ha9 <;> cases ha9))
      | (dsimp only [hAct] at ha; split at ha <;> (obtain ⟨_, _, _, _, ha9⟩ := hr_some ha; split at ha9 <;> cases ha9))
      | (dsimp only [hAct] at ha; split at ha <;> first | (cases ha; done) | (split at ha <;> first | (cases ha; done) | (split at ha <;> cases ha)))
set_option maxHeartbeats 4000000 in
/-- WHAT THE MACHINE RUNS, THE JVM RUNS -/
theorem hSound : ∀ (n y : Nat) (I : hI), hInf[y]? = some I → ∀ (pc : Nat) (L : List (Option hV)) (st : List hV) (S : hS) (o : Option Int32) (S' : hS), hRun n (hcod y) pc L st S = some (o, S') → okF S L st → (okS S' ∧ S.1 <+: S'.1) ∧ ∀ (D : va_G) (cs : ClassId × ClassId × ClassId) (h0 n0 z0 : Nat) (p : Program) (l : Launch) (e : Env) (R : Room) (s : State) (m : MethodId) (args : Array Value) (below : List Frame) (meth : Method) (c0 : Code), hX D cs h0 n0 I p R s m args meth c0 → n0 + R.cells = S'.1.length → z0 + R.slots = hSl S'.1 → hG D cs h0 n0 z0 I p l e R s m args below meth c0 (MQ below (hQ D cs h0 o S') args s R.cells R.slots (fun q => h0 ≤ q)) pc L st S := by
  intro n
  induction n with
  | zero => intro y I hI pc L st S o S' h; cases h
  | succ n ih =>
    intro y I hI pc L st S o S' h ok
    rw [hRun] at h
    cases hf : hFetch (hcod y) pc with
    | none => rw [hf] at h; cases h
    | some E =>
      rw [hf] at h
      dsimp only at h
      obtain ⟨hch, hpc⟩ := hAllE hI hf
      cases ha : hAct E L st S with
      | none => rw [ha] at h; cases h
      | some A =>
        rw [ha] at h
        rcases A with ⟨pc', L', st', S1⟩ | ⟨y', as, nx, r, vf⟩ | o'
        · have ok1 := hOk hch ha ok
          have i1 := ih y I hI pc' L' st' S1 o S' h ok1.1
          refine ⟨⟨i1.1.1, ok1.2.trans i1.1.2⟩, fun D cs h0 n0 z0 p l e R s m args below meth c0 hx k1 k2 => ?_⟩
          rw [← hpc]
          exact (hStep hx hch ha ok).2.2 (by rw [k1]; exact i1.1.2.length_le) (by rw [k2]; exact hSl_mono i1.1.2) (i1.2 D cs h0 n0 z0 p l e R s m args below meth c0 hx k1 k2)
        · dsimp only at h
          obtain ⟨J, hJ, jl, ja, jr⟩ := hCallP hch ha ok
          cases hc : hRun n (hcod y') 0 (hInit (hcod y').1 as) [] S with
          | none => rw [hc] at h; cases h
          | some q =>
            rw [hc] at h
            obtain ⟨o1, S1⟩ := q
            have hmx : (hcod y').1 = J.2.2.1 := by
              have hm := hAll hJ
              simp only [hChkM, Bool.and_eq_true, decide_eq_true_eq] at hm
              exact hm.1.1
            have okc : okF S (hInit (hcod y').1 as) [] := by
              refine ⟨ok.1, fun k v hk => ?_, fun v hv => absurd hv List.not_mem_nil⟩
              unfold hInit at hk
              have hk := List.mem_of_getElem? hk
              rcases List.mem_append.mp hk with hk | hk
              · obtain ⟨w, hw, e⟩ := List.mem_map.mp hk
                cases e
                exact ja _ hw
              · cases (List.mem_replicate.mp hk).2
            have i1 := ih y' J hJ 0 _ [] S o1 S1 hc okc
            have h : hRun n (hcod y) nx L (o1.toList.map Sum.inl ++ r) S1 = some (o, S') := by
              cases o1 with
              | none =>
                dsimp only at h
                split at h
                · cases h
                · exact h
              | some x =>
                dsimp only at h
                split at h
                · exact h
                · cases h
            have ok2 : okF S1 L (o1.toList.map Sum.inl ++ r) := by
              refine ⟨i1.1.1, fun k v hk => (ok.2.1 k v hk).mono i1.1.2, fun v hv => ?_⟩
              rcases List.mem_append.mp hv with hv | hv
              · obtain ⟨w, -, e⟩ := List.mem_map.mp hv
                rw [← e]; trivial
              · exact (jr v hv).mono i1.1.2
            have i2 := ih y I hI nx L _ S1 o S' h ok2
            refine ⟨⟨i2.1.1, i1.1.2.trans i2.1.2⟩, fun D cs h0 n0 z0 p l e R s m args below meth c0 hx k1 k2 => ?_⟩
            obtain ⟨mc, hmc⟩ : ∃ mc, S.1.length + mc = S1.1.length := ⟨_, Nat.add_sub_cancel' i1.1.2.length_le⟩
            obtain ⟨ms, hms⟩ : ∃ ms, hSl S.1 + ms = hSl S1.1 := ⟨_, Nat.add_sub_cancel' (hSl_mono i1.1.2)⟩
            have hM : Met l J.1 (hWs J) (hRm J mc ms) (va_Pc (as.map (hvv h0)) (hHp D cs h0 S)) (hQ D cs h0 o1 S1) mc ms (fun q => h0 ≤ q) := by
              refine hMet (hOwn hJ).1 jl hmc hms (fun p e R s m args below meth c0 r1 r2 hx => ?_)
              subst r1; subst r2
              have i3 := i1.2 D cs h0 S.1.length (hSl S.1) p l e R s m args below meth c0 hx hmc hms
              rw [hmx] at i3
              exact i3
            rw [← hpc]
            exact hCall hx hch ha ok hJ hM hmc hms (by rw [k1]; exact i2.1.2.length_le) (by rw [k2]; exact hSl_mono i2.1.2) (i2.2 D cs h0 n0 z0 p l e R s m args below meth c0 hx k1 k2)
        · cases h
          refine ⟨⟨ok.1, List.prefix_refl _⟩, fun D cs h0 n0 z0 p l e R s m args below meth c0 hx k1 k2 => ?_⟩
          rw [← hpc]
          exact hRet hx hch ha k1 k2
end
section
/-! Rows of the machine for the instructions that need a word of their own. -/
def hRow (S : hS) (c : Nat) (f : Nat → Int32) : hS := (S.1, va_up S.2.1 c f, S.2.2)
theorem hRow_at (S : hS) (c : Nat) (f : Nat → Int32) : (hRow S c f).2.1 c = f := va_up_self _ _ _
theorem hRow_ne (S : hS) {c d : Nat} (f : Nat → Int32) (h : d ≠ c) : (hRow S c f).2.1 d = S.2.1 d := va_up_ne _ _ h
theorem hRow_row (S : hS) (c : Nat) (f g : Nat → Int32) : hRow (hRow S c f) c g = hRow S c g := by
  unfold hRow
  refine Prod.ext rfl (Prod.ext ?_ rfl)
  funext p
  by_cases h : p = c
  · subst h; exact (va_up_self _ _ _).trans (va_up_self _ _ _).symm
  · exact (va_up_ne _ _ h).trans ((va_up_ne _ _ h).trans (va_up_ne _ _ h).symm)
theorem hRow_self (S : hS) (c : Nat) : hRow S c (S.2.1 c) = S := by
  unfold hRow
  refine Prod.ext rfl (Prod.ext ?_ rfl)
  funext p
  by_cases h : p = c
  · subst h; exact va_up_self _ _ _
  · exact va_up_ne _ _ h
theorem hRow_comm (S : hS) {c d : Nat} (f g : Nat → Int32) (h : c ≠ d) : hRow (hRow S c f) d g = hRow (hRow S d g) c f := by
  unfold hRow
  refine Prod.ext rfl (Prod.ext ?_ rfl)
  funext p
  show va_up (va_up S.2.1 c f) d g p = va_up (va_up S.2.1 d g) c f p
  by_cases hd : p = d
  · subst hd
    rw [va_up_self, va_up_ne _ _ (fun e => h e.symm), va_up_self]
  · by_cases hc : p = c
    · subst hc; rw [va_up_ne _ _ hd, va_up_self, va_up_self]
    · rw [va_up_ne _ _ hd, va_up_ne _ _ hc, va_up_ne _ _ hc, va_up_ne _ _ hd]
theorem hPut_eq (S : hS) (c k : Nat) (x : Int32) : hPut S c k x = hRow S c (upd (S.2.1 c) k x) := rfl
theorem hPut_row (S : hS) (c k : Nat) (f : Nat → Int32) (x : Int32) : hPut (hRow S c f) c k x = hRow S c (upd f k x) := by rw [hPut_eq, hRow_at, hRow_row]
theorem hRow_k (S : hS) (c : Nat) (f : Nat → Int32) : (hRow S c f).1 = S.1 := rfl
theorem hRow_r (S : hS) (c : Nat) (f : Nat → Int32) : (hRow S c f).2.2 = S.2.2 := rfl
theorem hPut_k (S : hS) (c k : Nat) (x : Int32) : (hPut S c k x).1 = S.1 := rfl
theorem hPut_r (S : hS) (c k : Nat) (x : Int32) : (hPut S c k x).2.2 = S.2.2 := rfl
section
variable {C : hC} {pc : Nat} {L : List (Option hV)} {r st : List hV} {S : hS} {o : Option Int32 × hS} {p0 nx a b d q : Nat} {v : Int32}
theorem r_stepS {e : hE} {pc' : Nat} {L' : List (Option hV)} {st' : List hV} {S' : hS} (hf : hFetch C pc = some e) (ha : hAct e L st S = some (.inl (pc', L', st', S'))) (k : ∀ S1, S1 = S' → Rn C pc' L' st' S1 o) : Rn C pc L st S o := r_step hf ha (k _ rfl)
/-- the value on the stack gets a name -/
theorem r_top {x : Int32} (k : ∀ y, y = x → Rn C pc L (.inl y :: r) S o) : Rn C pc L (.inl x :: r) S o := k x rfl
theorem r_getr {idx c : Nat} {w : Nat × Nat} (hf : hFetch C pc = some (p0, .getfield idx, nx, a, b, 1, q, v)) (hw : S.2.2 c b = some w) (k : Rn C nx L (.inr (some w) :: r) S o) : Rn C pc L (.inr (some (a, c)) :: r) S o := by
  refine r_step hf ?_ k
  show hr (.inr (some (a, c)) :: r) (fun k c r => if k = a then some (.inl (nx, L, .inr (S.2.2 c b) :: r, S)) else none) = _
  unfold hr
  dsimp only
  rw [if_pos rfl, hw]
theorem r_iald {i : Int32} {k c : Nat} (hf : hFetch C pc = some (p0, .iaload, nx, a, b, d, q, v)) (j : Nat) (hi : i.toInt = (j : Int)) (hj : (10000 ≤ k ∧ k < 20000) ∧ j < k % 10000) (kk : Rn C nx L (.inl (S.2.1 c j) :: r) S o) : Rn C pc L (.inl i :: .inr (some (k, c)) :: r) S o := by
  refine r_step hf ?_ kk
  show hir (.inl i :: .inr (some (k, c)) :: r) (fun i k c r => if (10000 ≤ k ∧ k < 20000) ∧ 0 ≤ i.toInt ∧ i.toInt < ((k % 10000 : Nat) : Int) then some (.inl (nx, L, .inl (S.2.1 c i.toNatClampNeg) :: r, S)) else none) = _
  unfold hir
  dsimp only
  rw [if_pos ⟨hj.1, by omega, by omega⟩]
  have e : i.toNatClampNeg = j := by show i.toInt.toNat = j; omega
  rw [e]
theorem r_bald {i : Int32} {k c : Nat} (hf : hFetch C pc = some (p0, .baload, nx, a, b, d, q, v)) (j : Nat) (hi : i.toInt = (j : Int)) (hj : (20000 ≤ k ∧ k < 30000) ∧ j < k % 10000) (kk : Rn C nx L (.inl (S.2.1 c j) :: r) S o) : Rn C pc L (.inl i :: .inr (some (k, c)) :: r) S o := by
  refine r_step hf ?_ kk
  show hir (.inl i :: .inr (some (k, c)) :: r) (fun i k c r => if (20000 ≤ k ∧ k < 30000) ∧ 0 ≤ i.toInt ∧ i.toInt < ((k % 10000 : Nat) : Int) then some (.inl (nx, L, .inl (S.2.1 c i.toNatClampNeg) :: r, S)) else none) = _
  unfold hir
  dsimp only
  rw [if_pos ⟨hj.1, by omega, by omega⟩]
  have e : i.toNatClampNeg = j := by show i.toInt.toNat = j; omega
  rw [e]
theorem r_aald {i : Int32} {k c : Nat} {w : Nat × Nat} (hf : hFetch C pc = some (p0, .aaload, nx, a, b, d, q, v)) (j : Nat) (hi : i.toInt = (j : Int)) (hj : (30000 ≤ k ∧ k < 40000) ∧ j < k % 10000) (hw : S.2.2 c j = some w) (kk : Rn C nx L (.inr (some w) :: r) S o) : Rn C pc L (.inl i :: .inr (some (k, c)) :: r) S o := by
  refine r_step hf ?_ kk
  show hir (.inl i :: .inr (some (k, c)) :: r) (fun i k c r => if (30000 ≤ k ∧ k < 40000) ∧ 0 ≤ i.toInt ∧ i.toInt < ((k % 10000 : Nat) : Int) then some (.inl (nx, L, .inr (S.2.2 c i.toNatClampNeg) :: r, S)) else none) = _
  unfold hir
  dsimp only
  rw [if_pos ⟨hj.1, by omega, by omega⟩]
  have e : i.toNatClampNeg = j := by show i.toInt.toNat = j; omega
  rw [e, hw]
theorem r_iast {i x : Int32} {k c : Nat} (hf : hFetch C pc = some (p0, .iastore, nx, a, b, d, q, v)) (j : Nat) (hi : i.toInt = (j : Int)) (hj : (10000 ≤ k ∧ k < 20000) ∧ j < k % 10000) (kk : ∀ S1, S1 = hPut S c j x → Rn C nx L r S1 o) : Rn C pc L (.inl x :: .inl i :: .inr (some (k, c)) :: r) S o := by
  refine r_step hf ?_ (kk _ rfl)
  dsimp only [hAct]
  rw [if_pos ⟨hj.1, by omega, by omega⟩]
  have e : i.toNatClampNeg = j := by show i.toInt.toNat = j; omega
  rw [e]
theorem r_bast {i x : Int32} {k c : Nat} (hf : hFetch C pc = some (p0, .bastore, nx, a, b, d, q, v)) (j : Nat) (hi : i.toInt = (j : Int)) (hj : (20000 ≤ k ∧ k < 30000) ∧ j < k % 10000) (hx : x = 0 ∨ x = 1) (kk : ∀ S1, S1 = hPut S c j x → Rn C nx L r S1 o) : Rn C pc L (.inl x :: .inl i :: .inr (some (k, c)) :: r) S o := by
  refine r_step hf ?_ (kk _ rfl)
  dsimp only [hAct]
  rw [if_pos ⟨hj.1, by omega, by omega⟩, if_pos hx]
  have e : i.toNatClampNeg = j := by show i.toInt.toNat = j; omega
  rw [e]
/-- a boolean field -/
theorem r_putz {idx c : Nat} {x : Int32} (hf : hFetch C pc = some (p0, .putfield idx, nx, a, b, 2, q, v)) (hx : x = 0 ∨ x = 1) (k : ∀ S1, S1 = hPut S c b x → Rn C nx L r S1 o) : Rn C pc L (.inl x :: .inr (some (a, c)) :: r) S o := by
  refine r_step hf ?_ (k _ rfl)
  show (if a = a then (if x = 0 ∨ x = 1 then (some (.inl (nx, L, r, hPut S c b x)) : Option hA) else none) else none) = _
  rw [if_pos rfl, if_pos hx]
theorem r_div {x y : Int32} (hf : hFetch C pc = some (p0, .idiv, nx, a, b, d, q, v)) (hy : ¬ y = 0) (k : Rn C nx L (.inl (x / y) :: r) S o) : Rn C pc L (.inl y :: .inl x :: r) S o := by
  refine r_step hf ?_ k
  show h2 (.inl y :: .inl x :: r) (fun x y r => if y = 0 then none else some (.inl (nx, L, .inl (x / y) :: r, S))) = _
  unfold h2
  dsimp only
  rw [if_neg hy]
theorem r_rem {x y : Int32} (hf : hFetch C pc = some (p0, .irem, nx, a, b, d, q, v)) (hy : ¬ y = 0) (k : Rn C nx L (.inl (x - x / y * y) :: r) S o) : Rn C pc L (.inl y :: .inl x :: r) S o := by
  refine r_step hf ?_ k
  show h2 (.inl y :: .inl x :: r) (fun x y r => if y = 0 then none else some (.inl (nx, L, .inl (x - x / y * y) :: r, S))) = _
  unfold h2
  dsimp only
  rw [if_neg hy]
theorem r_reti {x y : Int32} {S' : hS} (hf : hFetch C pc = some (p0, .ireturn, nx, a, b, 0, q, v)) (hx : x = y) (hS : S = S') : Rn C pc L [.inl x] S (some y, S') := by
  subst hx; subst hS
  exact r_ret hf rfl
theorem r_retz {x y : Int32} {S' : hS} (hf : hFetch C pc = some (p0, .ireturn, nx, a, b, 2, q, v)) (hz : x = 0 ∨ x = 1) (hx : x = y) (hS : S = S') : Rn C pc L [.inl x] S (some y, S') := by
  subst hx; subst hS
  refine r_ret hf ?_
  dsimp only [hAct]
  rw [if_pos rfl, if_pos hz]
theorem r_retn {S' : hS} (hf : hFetch C pc = some (p0, .return_, nx, a, b, d, q, v)) (hS : S = S') : Rn C pc L [] S (none, S') := by
  subst hS
  exact r_ret hf rfl
theorem r_tsw {dd lo hi : Int} {offs : Array Int} {x : Int32} (t : Nat) (hf : hFetch C pc = some (p0, .tableswitch dd lo hi offs, nx, a, b, d, q, v)) (ht : hTs p0 dd lo hi offs x = t) (k : Rn C t L r S o) : Rn C pc L (.inl x :: r) S o := by
  subst ht
  exact r_step hf rfl k
theorem r_lsw {dd : Int} {ps : Array (Int × Int)} {x : Int32} (t : Nat) (hf : hFetch C pc = some (p0, .lookupswitch dd ps, nx, a, b, d, q, v)) (ht : hLs p0 dd ps x = t) (k : Rn C t L r S o) : Rn C pc L (.inl x :: r) S o := by
  subst ht
  exact r_step hf rfl k
end
/-- a table's switch, where the number isn't in it -/
theorem hTs_out {pc : Nat} {d lo hi : Int} {offs : Array Int} {x : Int32} (h : x.toInt < lo ∨ hi < x.toInt) : hTs pc d lo hi offs x = ((pc : Int) + d).toNat := by unfold hTs; rw [if_pos h]
theorem r_ifn {C : hC} {c : Prop} {i : Decidable (¬ c)} {p q : Nat} {L : List (Option hV)} {st : List hV} {S : hS} {o : Option Int32 × hS} (kt : ¬ c → Rn C p L st S o) (kf : c → Rn C q L st S o) : Rn C (if ¬ c then p else q) L st S o := by
  by_cases h : ¬ c
  · rw [if_pos h]; exact kt h
  · rw [if_neg h]; exact kf (Classical.byContradiction h)
theorem r_i_eq {C : hC} {x y : Int32} {p q : Nat} {L : List (Option hV)} {st : List hV} {S : hS} {o : Option Int32 × hS} (kt : x = y → Rn C p L st S o) (kf : ¬ (x = y) → Rn C q L st S o) : Rn C (hIf .eq x y p q) L st S o := r_if kt kf
theorem r_i_lt {C : hC} {x y : Int32} {p q : Nat} {L : List (Option hV)} {st : List hV} {S : hS} {o : Option Int32 × hS} (kt : x < y → Rn C p L st S o) (kf : ¬ (x < y) → Rn C q L st S o) : Rn C (hIf .lt x y p q) L st S o := r_if kt kf
theorem r_i_ge {C : hC} {x y : Int32} {p q : Nat} {L : List (Option hV)} {st : List hV} {S : hS} {o : Option Int32 × hS} (kt : y ≤ x → Rn C p L st S o) (kf : ¬ (y ≤ x) → Rn C q L st S o) : Rn C (hIf .ge x y p q) L st S o := r_if kt kf
theorem r_i_gt {C : hC} {x y : Int32} {p q : Nat} {L : List (Option hV)} {st : List hV} {S : hS} {o : Option Int32 × hS} (kt : y < x → Rn C p L st S o) (kf : ¬ (y < x) → Rn C q L st S o) : Rn C (hIf .gt x y p q) L st S o := r_if kt kf
theorem r_i_le {C : hC} {x y : Int32} {p q : Nat} {L : List (Option hV)} {st : List hV} {S : hS} {o : Option Int32 × hS} (kt : x ≤ y → Rn C p L st S o) (kf : ¬ (x ≤ y) → Rn C q L st S o) : Rn C (hIf .le x y p q) L st S o := r_if kt kf
theorem r_i_ne {C : hC} {x y : Int32} {p q : Nat} {L : List (Option hV)} {st : List hV} {S : hS} {o : Option Int32 × hS} (kt : ¬ x = y → Rn C p L st S o) (kf : x = y → Rn C q L st S o) : Rn C (hIf .ne x y p q) L st S o := r_ifn kt kf
end
section
/-! The JDK's methods, and the wheel's. -/
def jmin (a b : Int32) : Int32 := if b < a then b else a
def jmax (a b : Int32) : Int32 := if a < b then b else a
def jabs (a : Int32) : Int32 := if 0 ≤ a then a else -a
def jfdiv (a b : Int32) : Int32 := if 0 ≤ (a ^^^ b) then a / b else if a / b * b = a then a / b else a / b - 1
def jfmod (a b : Int32) : Int32 := if 0 ≤ (a ^^^ b) then a - a / b * b else if a - a / b * b = 0 then a - a / b * b else a - a / b * b + b
theorem e_max (a b : Int32) (S : hS) : Ev 4 [.inl a, .inl b] S (some (jmax a b), S) := by
  show Rn hc_J9_max_7cf53 0 [some (.inl a), some (.inl b)] [] S _
  repeat' (first | refine r_step rfl rfl ?_ | with_reducible refine r_i_eq (fun c => ?_) (fun c => ?_) | with_reducible refine r_i_ne (fun c => ?_) (fun c => ?_) | with_reducible refine r_i_lt (fun c => ?_) (fun c => ?_) | with_reducible refine r_i_ge (fun c => ?_) (fun c => ?_) | with_reducible refine r_i_gt (fun c => ?_) (fun c => ?_) | with_reducible refine r_i_le (fun c => ?_) (fun c => ?_))
  all_goals refine r_reti rfl ?_ rfl
  all_goals simp only [jmax, *, if_true, if_false]
theorem e_min (a b : Int32) (S : hS) : Ev 5 [.inl a, .inl b] S (some (jmin a b), S) := by
  show Rn hc_J9_min_7cf53 0 [some (.inl a), some (.inl b)] [] S _
  repeat' (first | refine r_step rfl rfl ?_ | with_reducible refine r_i_eq (fun c => ?_) (fun c => ?_) | with_reducible refine r_i_ne (fun c => ?_) (fun c => ?_) | with_reducible refine r_i_lt (fun c => ?_) (fun c => ?_) | with_reducible refine r_i_ge (fun c => ?_) (fun c => ?_) | with_reducible refine r_i_gt (fun c => ?_) (fun c => ?_) | with_reducible refine r_i_le (fun c => ?_) (fun c => ?_))
  all_goals refine r_reti rfl ?_ rfl
  all_goals simp only [jmin, *, if_true, if_false]
theorem e_abs (a : Int32) (S : hS) : Ev 1 [.inl a] S (some (jabs a), S) := by
  show Rn hc_J9_abs_0f7a4 0 [some (.inl a)] [] S _
  repeat' (first | refine r_step rfl rfl ?_ | with_reducible refine r_i_eq (fun c => ?_) (fun c => ?_) | with_reducible refine r_i_ne (fun c => ?_) (fun c => ?_) | with_reducible refine r_i_lt (fun c => ?_) (fun c => ?_) | with_reducible refine r_i_ge (fun c => ?_) (fun c => ?_) | with_reducible refine r_i_gt (fun c => ?_) (fun c => ?_) | with_reducible refine r_i_le (fun c => ?_) (fun c => ?_))
  all_goals refine r_reti rfl ?_ rfl
  all_goals simp only [jabs, *, if_true, if_false]
theorem e_floorDiv (a b : Int32) (S : hS) (hb : ¬ b = 0) : Ev 2 [.inl a, .inl b] S (some (jfdiv a b), S) := by
  show Rn hc_J9_floorDiv_7cf53 0 [some (.inl a), some (.inl b), none] [] S _
  repeat' (first | refine r_step rfl rfl ?_ | refine r_div rfl hb ?_ | with_reducible refine r_i_eq (fun c => ?_) (fun c => ?_) | with_reducible refine r_i_ne (fun c => ?_) (fun c => ?_) | with_reducible refine r_i_lt (fun c => ?_) (fun c => ?_) | with_reducible refine r_i_ge (fun c => ?_) (fun c => ?_) | with_reducible refine r_i_gt (fun c => ?_) (fun c => ?_) | with_reducible refine r_i_le (fun c => ?_) (fun c => ?_))
  all_goals refine r_reti rfl ?_ rfl
  all_goals simp only [jfdiv, *, if_true, if_false]
theorem e_floorMod (a b : Int32) (S : hS) (hb : ¬ b = 0) : Ev 3 [.inl a, .inl b] S (some (jfmod a b), S) := by
  show Rn hc_J9_floorMod_7cf53 0 [some (.inl a), some (.inl b), none] [] S _
  repeat' (first | refine r_step rfl rfl ?_ | refine r_rem rfl hb ?_ | with_reducible refine r_i_eq (fun c => ?_) (fun c => ?_) | with_reducible refine r_i_ne (fun c => ?_) (fun c => ?_) | with_reducible refine r_i_lt (fun c => ?_) (fun c => ?_) | with_reducible refine r_i_ge (fun c => ?_) (fun c => ?_) | with_reducible refine r_i_gt (fun c => ?_) (fun c => ?_) | with_reducible refine r_i_le (fun c => ?_) (fun c => ?_))
  all_goals refine r_reti rfl ?_ rfl
  all_goals simp only [jfmod, *, if_true, if_false]
/-- the wheel's fields: 0 mode, 1 speed, 2 pitch, 3 torque, 4 wind, 5 from, 6 heading, 7 twist, 8 ice, 9 gridThere, 10 wanted, 11 good, 12 storm, 13 away, 14 off, 15 unwinding -/
def wAhead (w : Nat → Int32) : Int32 := if w 6 ≤ w 5 then w 5 - w 6 else w 5 - w 6 + 36
def wError (w : Nat → Int32) : Int32 := jmin (wAhead w) (36 - wAhead w)
def wDrive (w : Nat → Int32) (e : Int32) : Int32 := w 4 * jmax 0 (9 - e) * (10 - w 8) * (90 - w 2) / 1620
def wDrag (w : Nat → Int32) : Int32 := if w 1 = 0 then 0 else w 1 / 10 + 1
def wNear (v a m : Int32) : Int32 := if a ≤ v then jmax a (v - m) else jmin a (v + m)
def wWound (w : Nat → Int32) (lim : Int32) : Prop := lim ≤ w 7 ∨ w 7 ≤ -lim
def wWd (w : Nat → Int32) (lim : Int32) : Int32 := if lim ≤ w 7 then 1 else if -lim < w 7 then 0 else 1
theorem e_ahead (c : Nat) (S : hS) : Ev 41 [.inr (some (8, c))] S (some (wAhead (S.2.1 c)), S) := by
  show Rn hc_X8_ahead 0 [some (.inr (some (8, c)))] [] S _
  repeat' (first | refine r_step rfl rfl ?_ | with_reducible refine r_i_eq (fun c => ?_) (fun c => ?_) | with_reducible refine r_i_ne (fun c => ?_) (fun c => ?_) | with_reducible refine r_i_lt (fun c => ?_) (fun c => ?_) | with_reducible refine r_i_ge (fun c => ?_) (fun c => ?_) | with_reducible refine r_i_gt (fun c => ?_) (fun c => ?_) | with_reducible refine r_i_le (fun c => ?_) (fun c => ?_))
  all_goals refine r_reti rfl ?_ rfl
  all_goals simp only [wAhead, *, if_true, if_false]
theorem e_error (c : Nat) (S : hS) : Ev 88 [.inr (some (8, c))] S (some (wError (S.2.1 c)), S) := by
  show Rn hc_X8_error 0 [some (.inr (some (8, c))), none] [] S _
  repeat' (first | refine r_step rfl rfl ?_ | refine r_call rfl rfl (e_ahead _ _) ?_ | refine r_call rfl rfl (e_min _ _ _) ?_ | with_reducible refine r_i_eq (fun c => ?_) (fun c => ?_) | with_reducible refine r_i_ne (fun c => ?_) (fun c => ?_) | with_reducible refine r_i_lt (fun c => ?_) (fun c => ?_) | with_reducible refine r_i_ge (fun c => ?_) (fun c => ?_) | with_reducible refine r_i_gt (fun c => ?_) (fun c => ?_) | with_reducible refine r_i_le (fun c => ?_) (fun c => ?_))
  all_goals refine r_reti rfl ?_ rfl
  all_goals rfl
theorem e_drive (c : Nat) (e : Int32) (S : hS) : Ev 87 [.inr (some (8, c)), .inl e] S (some (wDrive (S.2.1 c) e), S) := by
  show Rn hc_X8_drive 0 [some (.inr (some (8, c))), some (.inl e)] [] S _
  repeat' (first | refine r_step rfl rfl ?_ | refine r_call rfl rfl (e_max _ _ _) ?_ | refine r_div rfl (by decide) ?_ | with_reducible refine r_i_eq (fun c => ?_) (fun c => ?_) | with_reducible refine r_i_ne (fun c => ?_) (fun c => ?_) | with_reducible refine r_i_lt (fun c => ?_) (fun c => ?_) | with_reducible refine r_i_ge (fun c => ?_) (fun c => ?_) | with_reducible refine r_i_gt (fun c => ?_) (fun c => ?_) | with_reducible refine r_i_le (fun c => ?_) (fun c => ?_))
  all_goals refine r_reti rfl ?_ rfl
  all_goals rfl
theorem e_drag (c : Nat) (S : hS) : Ev 43 [.inr (some (8, c))] S (some (wDrag (S.2.1 c)), S) := by
  show Rn hc_X8_drag 0 [some (.inr (some (8, c)))] [] S _
  repeat' (first | refine r_step rfl rfl ?_ | refine r_div rfl (by decide) ?_ | with_reducible refine r_i_eq (fun c => ?_) (fun c => ?_) | with_reducible refine r_i_ne (fun c => ?_) (fun c => ?_) | with_reducible refine r_i_lt (fun c => ?_) (fun c => ?_) | with_reducible refine r_i_ge (fun c => ?_) (fun c => ?_) | with_reducible refine r_i_gt (fun c => ?_) (fun c => ?_) | with_reducible refine r_i_le (fun c => ?_) (fun c => ?_))
  all_goals refine r_reti rfl ?_ rfl
  all_goals simp only [wDrag, *, if_true, if_false]
theorem e_nearer (v a m : Int32) (S : hS) : Ev 90 [.inl v, .inl a, .inl m] S (some (wNear v a m), S) := by
  show Rn hc_X8_nearer 0 [some (.inl v), some (.inl a), some (.inl m)] [] S _
  repeat' (first | refine r_step rfl rfl ?_ | refine r_call rfl rfl (e_max _ _ _) ?_ | refine r_call rfl rfl (e_min _ _ _) ?_ | with_reducible refine r_i_eq (fun c => ?_) (fun c => ?_) | with_reducible refine r_i_ne (fun c => ?_) (fun c => ?_) | with_reducible refine r_i_lt (fun c => ?_) (fun c => ?_) | with_reducible refine r_i_ge (fun c => ?_) (fun c => ?_) | with_reducible refine r_i_gt (fun c => ?_) (fun c => ?_) | with_reducible refine r_i_le (fun c => ?_) (fun c => ?_))
  all_goals refine r_reti rfl ?_ rfl
  all_goals simp only [wNear, *, if_true, if_false]
theorem e_isWound (c : Nat) (lim : Int32) (S : hS) : Ev 44 [.inr (some (8, c)), .inl lim] S (some (wWd (S.2.1 c) lim), S) := by
  show Rn hc_X8_isWound 0 [some (.inr (some (8, c))), some (.inl lim)] [] S _
  repeat' (first | refine r_step rfl rfl ?_ | with_reducible refine r_i_eq (fun c => ?_) (fun c => ?_) | with_reducible refine r_i_ne (fun c => ?_) (fun c => ?_) | with_reducible refine r_i_lt (fun c => ?_) (fun c => ?_) | with_reducible refine r_i_ge (fun c => ?_) (fun c => ?_) | with_reducible refine r_i_gt (fun c => ?_) (fun c => ?_) | with_reducible refine r_i_le (fun c => ?_) (fun c => ?_))
  all_goals refine r_retz rfl (by first | exact Or.inl rfl | exact Or.inr rfl) ?_ rfl
  all_goals simp only [wWd, *, if_true, if_false]
/-- a mode -/
def isMode (x : Int32) : Prop := x = 0 ∨ x = 1 ∨ x = 2 ∨ x = 3 ∨ x = 4 ∨ x = 5
def wPitchAim (st w : Nat → Int32) : Int32 := if w 0 = 1 then 20 else if w 0 = 2 then 0 else if w 0 = 3 then jmax 0 (jmin 90 (w 2 + (w 1 - st 0) / 4)) else 90
def wTorqueAim (st w : Nat → Int32) : Int32 := if w 0 = 2 then w 1 / 2 else if w 0 = 3 then st 0 / 2 else 0
theorem e_pitchAim (c cs : Nat) (S : hS) (hm : isMode (S.2.1 c 0)) : Ev 92 [.inr (some (8, c)), .inr (some (5, cs))] S (some (wPitchAim (S.2.1 cs) (S.2.1 c)), S) := by
  show Rn hc_X8_pitchAim 0 [some (.inr (some (8, c))), some (.inr (some (5, cs)))] [] S _
  iterate 2 refine r_step rfl rfl ?_
  rcases hm with hm | hm | hm | hm | hm | hm
  · refine r_tsw 63 rfl (by rw [hm]; rfl) ?_
    repeat' (first | refine r_step rfl rfl ?_ | with_reducible refine r_i_eq (fun c => ?_) (fun c => ?_) | with_reducible refine r_i_ne (fun c => ?_) (fun c => ?_) | with_reducible refine r_i_lt (fun c => ?_) (fun c => ?_) | with_reducible refine r_i_ge (fun c => ?_) (fun c => ?_) | with_reducible refine r_i_gt (fun c => ?_) (fun c => ?_) | with_reducible refine r_i_le (fun c => ?_) (fun c => ?_))
    refine r_reti rfl ?_ rfl
    simp [wPitchAim, hm]
  · refine r_tsw 32 rfl (by rw [hm]; rfl) ?_
    repeat' (first | refine r_step rfl rfl ?_ | with_reducible refine r_i_eq (fun c => ?_) (fun c => ?_) | with_reducible refine r_i_ne (fun c => ?_) (fun c => ?_) | with_reducible refine r_i_lt (fun c => ?_) (fun c => ?_) | with_reducible refine r_i_ge (fun c => ?_) (fun c => ?_) | with_reducible refine r_i_gt (fun c => ?_) (fun c => ?_) | with_reducible refine r_i_le (fun c => ?_) (fun c => ?_))
    refine r_reti rfl ?_ rfl
    simp [wPitchAim, hm]
  · refine r_tsw 35 rfl (by rw [hm]; rfl) ?_
    repeat' (first | refine r_step rfl rfl ?_ | with_reducible refine r_i_eq (fun c => ?_) (fun c => ?_) | with_reducible refine r_i_ne (fun c => ?_) (fun c => ?_) | with_reducible refine r_i_lt (fun c => ?_) (fun c => ?_) | with_reducible refine r_i_ge (fun c => ?_) (fun c => ?_) | with_reducible refine r_i_gt (fun c => ?_) (fun c => ?_) | with_reducible refine r_i_le (fun c => ?_) (fun c => ?_))
    refine r_reti rfl ?_ rfl
    simp [wPitchAim, hm]
  · refine r_tsw 37 rfl (by rw [hm]; rfl) ?_
    repeat' (first | refine r_step rfl rfl ?_ | refine r_call rfl rfl (e_max _ _ _) ?_ | refine r_call rfl rfl (e_min _ _ _) ?_ | refine r_div rfl (by decide) ?_ | with_reducible refine r_i_eq (fun c => ?_) (fun c => ?_) | with_reducible refine r_i_ne (fun c => ?_) (fun c => ?_) | with_reducible refine r_i_lt (fun c => ?_) (fun c => ?_) | with_reducible refine r_i_ge (fun c => ?_) (fun c => ?_) | with_reducible refine r_i_gt (fun c => ?_) (fun c => ?_) | with_reducible refine r_i_le (fun c => ?_) (fun c => ?_))
    refine r_reti rfl ?_ rfl
    simp [wPitchAim, hm]
  · refine r_tsw 63 rfl (by rw [hm]; rfl) ?_
    repeat' (first | refine r_step rfl rfl ?_ | with_reducible refine r_i_eq (fun c => ?_) (fun c => ?_) | with_reducible refine r_i_ne (fun c => ?_) (fun c => ?_) | with_reducible refine r_i_lt (fun c => ?_) (fun c => ?_) | with_reducible refine r_i_ge (fun c => ?_) (fun c => ?_) | with_reducible refine r_i_gt (fun c => ?_) (fun c => ?_) | with_reducible refine r_i_le (fun c => ?_) (fun c => ?_))
    refine r_reti rfl ?_ rfl
    simp [wPitchAim, hm]
  · refine r_tsw 63 rfl (by rw [hm]; rfl) ?_
    repeat' (first | refine r_step rfl rfl ?_ | with_reducible refine r_i_eq (fun c => ?_) (fun c => ?_) | with_reducible refine r_i_ne (fun c => ?_) (fun c => ?_) | with_reducible refine r_i_lt (fun c => ?_) (fun c => ?_) | with_reducible refine r_i_ge (fun c => ?_) (fun c => ?_) | with_reducible refine r_i_gt (fun c => ?_) (fun c => ?_) | with_reducible refine r_i_le (fun c => ?_) (fun c => ?_))
    refine r_reti rfl ?_ rfl
    simp [wPitchAim, hm]
theorem e_torqueAim (c cs : Nat) (S : hS) (hm : isMode (S.2.1 c 0)) : Ev 46 [.inr (some (8, c)), .inr (some (5, cs))] S (some (wTorqueAim (S.2.1 cs) (S.2.1 c)), S) := by
  show Rn hc_X8_torqueAim 0 [some (.inr (some (8, c))), some (.inr (some (5, cs)))] [] S _
  iterate 2 refine r_step rfl rfl ?_
  rcases hm with hm | hm | hm | hm | hm | hm
  · refine r_lsw 46 rfl (by rw [hm]; rfl) ?_
    repeat' (first | refine r_step rfl rfl ?_ | with_reducible refine r_i_eq (fun c => ?_) (fun c => ?_) | with_reducible refine r_i_ne (fun c => ?_) (fun c => ?_) | with_reducible refine r_i_lt (fun c => ?_) (fun c => ?_) | with_reducible refine r_i_ge (fun c => ?_) (fun c => ?_) | with_reducible refine r_i_gt (fun c => ?_) (fun c => ?_) | with_reducible refine r_i_le (fun c => ?_) (fun c => ?_))
    refine r_reti rfl ?_ rfl
    simp [wTorqueAim, hm]
  · refine r_lsw 46 rfl (by rw [hm]; rfl) ?_
    repeat' (first | refine r_step rfl rfl ?_ | with_reducible refine r_i_eq (fun c => ?_) (fun c => ?_) | with_reducible refine r_i_ne (fun c => ?_) (fun c => ?_) | with_reducible refine r_i_lt (fun c => ?_) (fun c => ?_) | with_reducible refine r_i_ge (fun c => ?_) (fun c => ?_) | with_reducible refine r_i_gt (fun c => ?_) (fun c => ?_) | with_reducible refine r_i_le (fun c => ?_) (fun c => ?_))
    refine r_reti rfl ?_ rfl
    simp [wTorqueAim, hm]
  · refine r_lsw 32 rfl (by rw [hm]; rfl) ?_
    repeat' (first | refine r_step rfl rfl ?_ | refine r_div rfl (by decide) ?_ | with_reducible refine r_i_eq (fun c => ?_) (fun c => ?_) | with_reducible refine r_i_ne (fun c => ?_) (fun c => ?_) | with_reducible refine r_i_lt (fun c => ?_) (fun c => ?_) | with_reducible refine r_i_ge (fun c => ?_) (fun c => ?_) | with_reducible refine r_i_gt (fun c => ?_) (fun c => ?_) | with_reducible refine r_i_le (fun c => ?_) (fun c => ?_))
    refine r_reti rfl ?_ rfl
    simp [wTorqueAim, hm]
  · refine r_lsw 39 rfl (by rw [hm]; rfl) ?_
    repeat' (first | refine r_step rfl rfl ?_ | refine r_div rfl (by decide) ?_ | with_reducible refine r_i_eq (fun c => ?_) (fun c => ?_) | with_reducible refine r_i_ne (fun c => ?_) (fun c => ?_) | with_reducible refine r_i_lt (fun c => ?_) (fun c => ?_) | with_reducible refine r_i_ge (fun c => ?_) (fun c => ?_) | with_reducible refine r_i_gt (fun c => ?_) (fun c => ?_) | with_reducible refine r_i_le (fun c => ?_) (fun c => ?_))
    refine r_reti rfl ?_ rfl
    simp [wTorqueAim, hm]
  · refine r_lsw 46 rfl (by rw [hm]; rfl) ?_
    repeat' (first | refine r_step rfl rfl ?_ | with_reducible refine r_i_eq (fun c => ?_) (fun c => ?_) | with_reducible refine r_i_ne (fun c => ?_) (fun c => ?_) | with_reducible refine r_i_lt (fun c => ?_) (fun c => ?_) | with_reducible refine r_i_ge (fun c => ?_) (fun c => ?_) | with_reducible refine r_i_gt (fun c => ?_) (fun c => ?_) | with_reducible refine r_i_le (fun c => ?_) (fun c => ?_))
    refine r_reti rfl ?_ rfl
    simp [wTorqueAim, hm]
  · refine r_lsw 46 rfl (by rw [hm]; rfl) ?_
    repeat' (first | refine r_step rfl rfl ?_ | with_reducible refine r_i_eq (fun c => ?_) (fun c => ?_) | with_reducible refine r_i_ne (fun c => ?_) (fun c => ?_) | with_reducible refine r_i_lt (fun c => ?_) (fun c => ?_) | with_reducible refine r_i_ge (fun c => ?_) (fun c => ?_) | with_reducible refine r_i_gt (fun c => ?_) (fun c => ?_) | with_reducible refine r_i_le (fun c => ?_) (fun c => ?_))
    refine r_reti rfl ?_ rfl
    simp [wTorqueAim, hm]
def wTurnBy (w : Nat → Int32) (d : Int32) : Nat → Int32 := upd (upd w 6 ((w 6 + d + 36) - (w 6 + d + 36) / 36 * 36)) 7 (w 7 + d)
theorem e_turnBy (c : Nat) (d : Int32) (S : hS) : Ev 47 [.inr (some (8, c)), .inl d] S (none, hRow S c (wTurnBy (S.2.1 c) d)) := by
  show Rn hc_X8_turnBy 0 [some (.inr (some (8, c))), some (.inl d)] [] S _
  repeat' (first | refine r_step rfl rfl ?_ | refine r_rem rfl (by decide) ?_ | with_reducible refine r_i_eq (fun c => ?_) (fun c => ?_) | with_reducible refine r_i_ne (fun c => ?_) (fun c => ?_) | with_reducible refine r_i_lt (fun c => ?_) (fun c => ?_) | with_reducible refine r_i_ge (fun c => ?_) (fun c => ?_) | with_reducible refine r_i_gt (fun c => ?_) (fun c => ?_) | with_reducible refine r_i_le (fun c => ?_) (fun c => ?_))
  refine r_retn rfl ?_
  rw [hPut_eq S, hRow_at, hPut_row]
  rfl
theorem r_getv {C : hC} {pc : Nat} {L : List (Option hV)} {r : List hV} {S : hS} {o : Option Int32 × hS} {p0 nx a b q idx c : Nat} {v x : Int32} (hx : S.2.1 c b = x) (hf : hFetch C pc = some (p0, .getfield idx, nx, a, b, 0, q, v)) (k : Rn C nx L (.inl x :: r) S o) : Rn C pc L (.inr (some (a, c)) :: r) S o := by
  subst hx
  refine r_step hf ?_ k
  show hr (.inr (some (a, c)) :: r) (fun k c r => if k = a then some (.inl (nx, L, .inl (S.2.1 c b) :: r, S)) else none) = _
  unfold hr
  dsimp only
  rw [if_pos rfl]
theorem md_01 : ¬ ((0 : Int32) = 1) := by decide
theorem md_02 : ¬ ((0 : Int32) = 2) := by decide
theorem md_03 : ¬ ((0 : Int32) = 3) := by decide
theorem md_04 : ¬ ((0 : Int32) = 4) := by decide
theorem md_05 : ¬ ((0 : Int32) = 5) := by decide
theorem md_10 : ¬ ((1 : Int32) = 0) := by decide
theorem md_12 : ¬ ((1 : Int32) = 2) := by decide
theorem md_13 : ¬ ((1 : Int32) = 3) := by decide
theorem md_14 : ¬ ((1 : Int32) = 4) := by decide
theorem md_15 : ¬ ((1 : Int32) = 5) := by decide
theorem md_20 : ¬ ((2 : Int32) = 0) := by decide
theorem md_21 : ¬ ((2 : Int32) = 1) := by decide
theorem md_23 : ¬ ((2 : Int32) = 3) := by decide
theorem md_24 : ¬ ((2 : Int32) = 4) := by decide
theorem md_25 : ¬ ((2 : Int32) = 5) := by decide
theorem md_30 : ¬ ((3 : Int32) = 0) := by decide
theorem md_31 : ¬ ((3 : Int32) = 1) := by decide
theorem md_32 : ¬ ((3 : Int32) = 2) := by decide
theorem md_34 : ¬ ((3 : Int32) = 4) := by decide
theorem md_35 : ¬ ((3 : Int32) = 5) := by decide
theorem md_40 : ¬ ((4 : Int32) = 0) := by decide
theorem md_41 : ¬ ((4 : Int32) = 1) := by decide
theorem md_42 : ¬ ((4 : Int32) = 2) := by decide
theorem md_43 : ¬ ((4 : Int32) = 3) := by decide
theorem md_45 : ¬ ((4 : Int32) = 5) := by decide
theorem md_50 : ¬ ((5 : Int32) = 0) := by decide
theorem md_51 : ¬ ((5 : Int32) = 1) := by decide
theorem md_52 : ¬ ((5 : Int32) = 2) := by decide
theorem md_53 : ¬ ((5 : Int32) = 3) := by decide
theorem md_54 : ¬ ((5 : Int32) = 4) := by decide
/-- the mode behind this one -/
def wMode (st w : Nat → Int32) : Int32 :=
  if ¬ w 1 ≤ st 1 ∧ (w 0 = 1 ∨ w 0 = 2 ∨ w 0 = 3 ∨ w 0 = 4) then 5 else
  if (w 0 = 1 ∨ w 0 = 2 ∨ w 0 = 3) ∧ (w 10 = 0 ∨ 2 ≤ w 12 ∨ 4 ≤ w 13 ∨ ¬ wWd w (st 4) = 0) then 4 else
  if w 0 = 0 then (if ¬ w 10 = 0 ∧ ¬ w 11 < 3 ∧ w 13 = 0 ∧ wWd w (st 4) = 0 ∧ w 15 = 0 then 1 else 0) else
  if w 0 = 1 then (if 5 * w 1 < 2 * st 0 then 1 else 2) else
  if w 0 = 2 then (if w 1 < st 0 then (if st 2 ≤ w 4 then 2 else if st 0 ≤ 5 * w 1 then 2 else 4) else 3) else
  if w 0 = 3 then (if w 2 = 0 ∧ ¬ st 0 - 5 ≤ w 1 then 2 else 3) else
  if w 0 = 4 then (if w 1 = 0 ∧ w 2 = 90 then 0 else 4) else w 0
set_option maxHeartbeats 4000000 in
set_option maxRecDepth 100000 in
theorem e_nextMode (c cs : Nat) (S : hS) (hm : isMode (S.2.1 c 0)) : Ev 91 [.inr (some (8, c)), .inr (some (5, cs))] S (some (wMode (S.2.1 cs) (S.2.1 c)), S) := by
  show Rn hc_X8_nextMode 0 [some (.inr (some (8, c))), some (.inr (some (5, cs))), none, none] [] S _
  rcases hm with hm | hm | hm | hm | hm | hm
  · repeat' (first | refine r_getv hm rfl ?_ | refine r_step rfl rfl ?_ | refine r_call rfl rfl (e_isWound _ _ _) ?_ | refine r_tsw 136 rfl rfl ?_ | with_reducible refine r_i_eq (fun c => ?_) (fun c => ?_) | with_reducible refine r_i_ne (fun c => ?_) (fun c => ?_) | with_reducible refine r_i_lt (fun c => ?_) (fun c => ?_) | with_reducible refine r_i_ge (fun c => ?_) (fun c => ?_) | with_reducible refine r_i_gt (fun c => ?_) (fun c => ?_) | with_reducible refine r_i_le (fun c => ?_) (fun c => ?_))
    all_goals refine r_reti rfl ?_ rfl
    all_goals simp only [wMode, hm, md_01, md_02, md_03, md_04, md_05, md_10, md_12, md_13, md_14, md_15, md_20, md_21, md_23, md_24, md_25, md_30, md_31, md_32, md_34, md_35, md_40, md_41, md_42, md_43, md_45, md_50, md_51, md_52, md_53, md_54, *, true_or, or_true, false_or, or_false, true_and, and_true, false_and, and_false, not_true, not_false_eq_true, if_true, if_false, ne_eq, not_true_eq_false]
  · repeat' (first | refine r_getv hm rfl ?_ | refine r_step rfl rfl ?_ | refine r_call rfl rfl (e_isWound _ _ _) ?_ | refine r_tsw 175 rfl rfl ?_ | with_reducible refine r_i_eq (fun c => ?_) (fun c => ?_) | with_reducible refine r_i_ne (fun c => ?_) (fun c => ?_) | with_reducible refine r_i_lt (fun c => ?_) (fun c => ?_) | with_reducible refine r_i_ge (fun c => ?_) (fun c => ?_) | with_reducible refine r_i_gt (fun c => ?_) (fun c => ?_) | with_reducible refine r_i_le (fun c => ?_) (fun c => ?_))
    all_goals refine r_reti rfl ?_ rfl
    all_goals simp only [wMode, hm, md_01, md_02, md_03, md_04, md_05, md_10, md_12, md_13, md_14, md_15, md_20, md_21, md_23, md_24, md_25, md_30, md_31, md_32, md_34, md_35, md_40, md_41, md_42, md_43, md_45, md_50, md_51, md_52, md_53, md_54, *, true_or, or_true, false_or, or_false, true_and, and_true, false_and, and_false, not_true, not_false_eq_true, if_true, if_false, ne_eq, not_true_eq_false]
  · repeat' (first | refine r_getv hm rfl ?_ | refine r_step rfl rfl ?_ | refine r_call rfl rfl (e_isWound _ _ _) ?_ | refine r_tsw 196 rfl rfl ?_ | with_reducible refine r_i_eq (fun c => ?_) (fun c => ?_) | with_reducible refine r_i_ne (fun c => ?_) (fun c => ?_) | with_reducible refine r_i_lt (fun c => ?_) (fun c => ?_) | with_reducible refine r_i_ge (fun c => ?_) (fun c => ?_) | with_reducible refine r_i_gt (fun c => ?_) (fun c => ?_) | with_reducible refine r_i_le (fun c => ?_) (fun c => ?_))
    all_goals refine r_reti rfl ?_ rfl
    all_goals simp only [wMode, hm, md_01, md_02, md_03, md_04, md_05, md_10, md_12, md_13, md_14, md_15, md_20, md_21, md_23, md_24, md_25, md_30, md_31, md_32, md_34, md_35, md_40, md_41, md_42, md_43, md_45, md_50, md_51, md_52, md_53, md_54, *, true_or, or_true, false_or, or_false, true_and, and_true, false_and, and_false, not_true, not_false_eq_true, if_true, if_false, ne_eq, not_true_eq_false]
  · repeat' (first | refine r_getv hm rfl ?_ | refine r_step rfl rfl ?_ | refine r_call rfl rfl (e_isWound _ _ _) ?_ | refine r_tsw 239 rfl rfl ?_ | with_reducible refine r_i_eq (fun c => ?_) (fun c => ?_) | with_reducible refine r_i_ne (fun c => ?_) (fun c => ?_) | with_reducible refine r_i_lt (fun c => ?_) (fun c => ?_) | with_reducible refine r_i_ge (fun c => ?_) (fun c => ?_) | with_reducible refine r_i_gt (fun c => ?_) (fun c => ?_) | with_reducible refine r_i_le (fun c => ?_) (fun c => ?_))
    all_goals refine r_reti rfl ?_ rfl
    all_goals simp only [wMode, hm, md_01, md_02, md_03, md_04, md_05, md_10, md_12, md_13, md_14, md_15, md_20, md_21, md_23, md_24, md_25, md_30, md_31, md_32, md_34, md_35, md_40, md_41, md_42, md_43, md_45, md_50, md_51, md_52, md_53, md_54, *, true_or, or_true, false_or, or_false, true_and, and_true, false_and, and_false, not_true, not_false_eq_true, if_true, if_false, ne_eq, not_true_eq_false]
  · repeat' (first | refine r_getv hm rfl ?_ | refine r_step rfl rfl ?_ | refine r_call rfl rfl (e_isWound _ _ _) ?_ | refine r_tsw 265 rfl rfl ?_ | with_reducible refine r_i_eq (fun c => ?_) (fun c => ?_) | with_reducible refine r_i_ne (fun c => ?_) (fun c => ?_) | with_reducible refine r_i_lt (fun c => ?_) (fun c => ?_) | with_reducible refine r_i_ge (fun c => ?_) (fun c => ?_) | with_reducible refine r_i_gt (fun c => ?_) (fun c => ?_) | with_reducible refine r_i_le (fun c => ?_) (fun c => ?_))
    all_goals refine r_reti rfl ?_ rfl
    all_goals simp_all only [wMode, hm, md_01, md_02, md_03, md_04, md_05, md_10, md_12, md_13, md_14, md_15, md_20, md_21, md_23, md_24, md_25, md_30, md_31, md_32, md_34, md_35, md_40, md_41, md_42, md_43, md_45, md_50, md_51, md_52, md_53, md_54, true_or, or_true, false_or, or_false, true_and, and_true, false_and, and_false, not_true, not_false_eq_true, if_true, if_false, ne_eq, not_true_eq_false]
  · repeat' (first | refine r_getv hm rfl ?_ | refine r_step rfl rfl ?_ | refine r_call rfl rfl (e_isWound _ _ _) ?_ | refine r_tsw 287 rfl rfl ?_ | with_reducible refine r_i_eq (fun c => ?_) (fun c => ?_) | with_reducible refine r_i_ne (fun c => ?_) (fun c => ?_) | with_reducible refine r_i_lt (fun c => ?_) (fun c => ?_) | with_reducible refine r_i_ge (fun c => ?_) (fun c => ?_) | with_reducible refine r_i_gt (fun c => ?_) (fun c => ?_) | with_reducible refine r_i_le (fun c => ?_) (fun c => ?_))
    all_goals refine r_reti rfl ?_ rfl
    all_goals simp only [wMode, hm, md_01, md_02, md_03, md_04, md_05, md_10, md_12, md_13, md_14, md_15, md_20, md_21, md_23, md_24, md_25, md_30, md_31, md_32, md_34, md_35, md_40, md_41, md_42, md_43, md_45, md_50, md_51, md_52, md_53, md_54, *, true_or, or_true, false_or, or_false, true_and, and_true, false_and, and_false, not_true, not_false_eq_true, if_true, if_false, ne_eq, not_true_eq_false]
def wT2 (w : Nat → Int32) : Nat → Int32 := if w 7 = 0 ∨ ¬ w 0 = 0 then upd w 15 0 else w
def wT1 (lim : Int32) (w : Nat → Int32) : Nat → Int32 := if w 0 = 0 ∧ ¬ wWd w lim = 0 then upd w 15 1 else w
def wT3 (lim : Int32) (w : Nat → Int32) : Nat → Int32 :=
  if w 15 = 0 then
    (if 3 < w 0 then w else if w 14 < 3 then w else
      if lim < w 7 + (if 18 < wAhead w then -1 else 1) then w else if w 7 + (if 18 < wAhead w then -1 else 1) < -lim then w else wTurnBy w (if 18 < wAhead w then -1 else 1))
  else wTurnBy w (if w 7 ≤ 0 then 1 else -1)
def wTurn (lim : Int32) (w : Nat → Int32) : Nat → Int32 := wT3 lim (wT2 (wT1 lim w))
set_option maxHeartbeats 4000000 in
set_option maxRecDepth 100000 in
theorem e_t39 (c : Nat) (lim : Int32) (S : hS) : Rn hc_X8_turn 39 [some (.inr (some (8, c))), some (.inl lim), none] [] S (none, hRow S c (wT3 lim (S.2.1 c))) := by
  repeat' (first | refine r_retn rfl ?_ | refine r_step rfl rfl ?_ | refine r_call rfl rfl (e_ahead _ _) ?_ | refine r_callv rfl rfl (e_turnBy _ _ _) ?_ | with_reducible refine r_i_eq (fun c => ?_) (fun c => ?_) | with_reducible refine r_i_ne (fun c => ?_) (fun c => ?_) | with_reducible refine r_i_lt (fun c => ?_) (fun c => ?_) | with_reducible refine r_i_ge (fun c => ?_) (fun c => ?_) | with_reducible refine r_i_gt (fun c => ?_) (fun c => ?_) | with_reducible refine r_i_le (fun c => ?_) (fun c => ?_))
  all_goals simp only [wT3, *, if_true, if_false, hRow_self]
set_option maxHeartbeats 4000000 in
set_option maxRecDepth 100000 in
theorem e_t20 (c : Nat) (lim : Int32) (S : hS) : Rn hc_X8_turn 20 [some (.inr (some (8, c))), some (.inl lim), none] [] S (none, hRow S c (wT3 lim (wT2 (S.2.1 c)))) := by
  repeat' (first | refine r_eq ?_ (e_t39 _ _ _) | refine r_step rfl rfl ?_ | with_reducible refine r_i_eq (fun c => ?_) (fun c => ?_) | with_reducible refine r_i_ne (fun c => ?_) (fun c => ?_) | with_reducible refine r_i_lt (fun c => ?_) (fun c => ?_) | with_reducible refine r_i_ge (fun c => ?_) (fun c => ?_) | with_reducible refine r_i_gt (fun c => ?_) (fun c => ?_) | with_reducible refine r_i_le (fun c => ?_) (fun c => ?_))
  all_goals simp only [wT2, *, if_true, if_false, hPut_at, hPut_eq, hRow_at, hRow_row, true_or, or_true, false_or, not_true_eq_false, not_false_eq_true]
set_option maxHeartbeats 4000000 in
set_option maxRecDepth 100000 in
theorem e_turn (c : Nat) (lim : Int32) (S : hS) : Ev 93 [.inr (some (8, c)), .inl lim] S (none, hRow S c (wTurn lim (S.2.1 c))) := by
  show Rn hc_X8_turn 0 [some (.inr (some (8, c))), some (.inl lim), none] [] S _
  repeat' (first | refine r_eq ?_ (e_t20 _ _ _) | refine r_step rfl rfl ?_ | refine r_call rfl rfl (e_isWound _ _ _) ?_ | with_reducible refine r_i_eq (fun c => ?_) (fun c => ?_) | with_reducible refine r_i_ne (fun c => ?_) (fun c => ?_) | with_reducible refine r_i_lt (fun c => ?_) (fun c => ?_) | with_reducible refine r_i_ge (fun c => ?_) (fun c => ?_) | with_reducible refine r_i_gt (fun c => ?_) (fun c => ?_) | with_reducible refine r_i_le (fun c => ?_) (fun c => ?_))
  all_goals simp only [wTurn, wT1, *, if_true, if_false, hPut_at, hPut_eq, hRow_at, hRow_row, true_and, and_true, false_and, and_false, not_true_eq_false, not_false_eq_true]
/-- the tick -/
def wS1 (st w : Nat → Int32) : Nat → Int32 := upd w 11 (if w 4 < st 2 then 0 else if st 3 ≤ w 4 then 0 else w 11 + 1)
def wS2 (st w : Nat → Int32) : Nat → Int32 := upd w 12 (if w 4 < st 3 then 0 else w 12 + 1)
def wS3 (w : Nat → Int32) : Nat → Int32 := upd w 13 (if w 9 = 0 then w 13 + 1 else 0)
def wS4 (st w : Nat → Int32) : Nat → Int32 := upd w 0 (wMode st w)
def wS5 (st w : Nat → Int32) : Nat → Int32 := upd w 2 (wNear (w 2) (wPitchAim st w) (if w 0 = 5 then 2 * st 5 else st 5))
def wS6 (st w : Nat → Int32) : Nat → Int32 := upd w 3 (if w 9 = 0 then 0 else wNear (w 3) (wTorqueAim st w) 10)
def wS7 (e : Int32) (w : Nat → Int32) : Nat → Int32 := upd w 1 (jmax 0 (w 1 + jfdiv (wDrive w e - w 3 - wDrag w) 8))
def wS8 (e : Int32) (w : Nat → Int32) : Nat → Int32 := upd w 14 (if e ≤ 2 then 0 else w 14 + 1)
def wEnd (st w : Nat → Int32) : Nat → Int32 := wTurn (st 4) (wS8 (wError w) (wS7 (wError w) w))
def wStep (st w : Nat → Int32) : Nat → Int32 := wEnd st (wS6 st (wS5 st (wS4 st (wS3 (wS2 st (wS1 st w))))))
theorem isMode_wMode {st w : Nat → Int32} (h : isMode (w 0)) : isMode (wMode st w) := by
  unfold wMode
  split
  · exact Or.inr (Or.inr (Or.inr (Or.inr (Or.inr rfl))))
  split
  · exact Or.inr (Or.inr (Or.inr (Or.inr (Or.inl rfl))))
  repeat' split
  all_goals first | exact h | exact Or.inl rfl | exact Or.inr (Or.inl rfl) | exact Or.inr (Or.inr (Or.inl rfl)) | exact Or.inr (Or.inr (Or.inr (Or.inl rfl))) | exact Or.inr (Or.inr (Or.inr (Or.inr (Or.inl rfl))))
section
variable (c cs : Nat) (S : hS) (hne : cs ≠ c)
set_option maxHeartbeats 4000000 in
set_option maxRecDepth 100000 in
theorem e_s214 (e : Int32) : Rn hc_X8_step 214 [some (.inr (some (8, c))), some (.inr (some (5, cs))), some (.inl e)] [] S (none, hRow S c (wTurn (S.2.1 cs 4) (S.2.1 c))) := by
  repeat' (first | refine r_step rfl rfl ?_ | refine r_callv rfl rfl (e_turn _ _ _) ?_ | with_reducible refine r_i_eq (fun c => ?_) (fun c => ?_) | with_reducible refine r_i_ne (fun c => ?_) (fun c => ?_) | with_reducible refine r_i_lt (fun c => ?_) (fun c => ?_) | with_reducible refine r_i_ge (fun c => ?_) (fun c => ?_) | with_reducible refine r_i_gt (fun c => ?_) (fun c => ?_) | with_reducible refine r_i_le (fun c => ?_) (fun c => ?_))
  exact r_retn rfl rfl
set_option maxHeartbeats 4000000 in
set_option maxRecDepth 100000 in
theorem e_s195 (hne : cs ≠ c) (e : Int32) : Rn hc_X8_step 195 [some (.inr (some (8, c))), some (.inr (some (5, cs))), some (.inl e)] [] S (none, hRow S c (wTurn (S.2.1 cs 4) (wS8 e (S.2.1 c)))) := by
  repeat' (first | refine r_eq ?_ (e_s214 _ _ _ _) | refine r_step rfl rfl ?_ | with_reducible refine r_i_eq (fun c => ?_) (fun c => ?_) | with_reducible refine r_i_ne (fun c => ?_) (fun c => ?_) | with_reducible refine r_i_lt (fun c => ?_) (fun c => ?_) | with_reducible refine r_i_ge (fun c => ?_) (fun c => ?_) | with_reducible refine r_i_gt (fun c => ?_) (fun c => ?_) | with_reducible refine r_i_le (fun c => ?_) (fun c => ?_))
  all_goals simp only [wS8, *, if_true, if_false, hPut_at, hPut_ne hne, hPut_eq, hRow_at, hRow_row, hRow_ne _ _ hne]
set_option maxHeartbeats 4000000 in
set_option maxRecDepth 100000 in
theorem e_s157 (hne : cs ≠ c) : Rn hc_X8_step 157 [some (.inr (some (8, c))), some (.inr (some (5, cs))), none] [] S (none, hRow S c (wEnd (S.2.1 cs) (S.2.1 c))) := by
  repeat' (first | refine r_eq ?_ (e_s195 _ _ _ hne _) | refine r_step rfl rfl ?_ | refine r_call rfl rfl (e_error _ _) ?_ | refine r_call rfl rfl (e_drive _ _ _) ?_ | refine r_call rfl rfl (e_drag _ _) ?_ | refine r_call rfl rfl (e_max _ _ _) ?_ | refine r_call rfl rfl (e_floorDiv _ _ _ (by decide)) ?_ | with_reducible refine r_i_eq (fun c => ?_) (fun c => ?_) | with_reducible refine r_i_ne (fun c => ?_) (fun c => ?_) | with_reducible refine r_i_lt (fun c => ?_) (fun c => ?_) | with_reducible refine r_i_ge (fun c => ?_) (fun c => ?_) | with_reducible refine r_i_gt (fun c => ?_) (fun c => ?_) | with_reducible refine r_i_le (fun c => ?_) (fun c => ?_))
  all_goals simp only [wEnd, wS7, hPut_at, hPut_ne hne, hPut_eq, hRow_at, hRow_row, hRow_ne _ _ hne]
set_option maxHeartbeats 4000000 in
set_option maxRecDepth 100000 in
theorem e_s128 (hne : cs ≠ c) (hm : isMode (S.2.1 c 0)) : Rn hc_X8_step 128 [some (.inr (some (8, c))), some (.inr (some (5, cs))), none] [] S (none, hRow S c (wEnd (S.2.1 cs) (wS6 (S.2.1 cs) (S.2.1 c)))) := by
  repeat' (first | refine r_eq ?_ (e_s157 _ _ _ hne) | refine r_step rfl rfl ?_ | refine r_call rfl rfl (e_torqueAim _ _ _ hm) ?_ | refine r_call rfl rfl (e_nearer _ _ _ _) ?_ | with_reducible refine r_i_eq (fun c => ?_) (fun c => ?_) | with_reducible refine r_i_ne (fun c => ?_) (fun c => ?_) | with_reducible refine r_i_lt (fun c => ?_) (fun c => ?_) | with_reducible refine r_i_ge (fun c => ?_) (fun c => ?_) | with_reducible refine r_i_gt (fun c => ?_) (fun c => ?_) | with_reducible refine r_i_le (fun c => ?_) (fun c => ?_))
  all_goals simp only [wS6, *, if_true, if_false, hPut_at, hPut_ne hne, hPut_eq, hRow_at, hRow_row, hRow_ne _ _ hne]
set_option maxHeartbeats 4000000 in
set_option maxRecDepth 100000 in
theorem e_s91 (hne : cs ≠ c) (hm : isMode (S.2.1 c 0)) : Rn hc_X8_step 91 [some (.inr (some (8, c))), some (.inr (some (5, cs))), none] [] S (none, hRow S c (wEnd (S.2.1 cs) (wS6 (S.2.1 cs) (wS5 (S.2.1 cs) (S.2.1 c))))) := by
  repeat' (first | refine r_eq ?_ (e_s128 _ _ _ hne (by rw [hPut_at]; exact hm)) | refine r_step rfl rfl ?_ | refine r_call rfl rfl (e_pitchAim _ _ _ hm) ?_ | refine r_call rfl rfl (e_nearer _ _ _ _) ?_ | with_reducible refine r_i_eq (fun c => ?_) (fun c => ?_) | with_reducible refine r_i_ne (fun c => ?_) (fun c => ?_) | with_reducible refine r_i_lt (fun c => ?_) (fun c => ?_) | with_reducible refine r_i_ge (fun c => ?_) (fun c => ?_) | with_reducible refine r_i_gt (fun c => ?_) (fun c => ?_) | with_reducible refine r_i_le (fun c => ?_) (fun c => ?_))
  all_goals simp only [wS5, *, if_true, if_false, hPut_at, hPut_ne hne, hPut_eq, hRow_at, hRow_row, hRow_ne _ _ hne]
set_option maxHeartbeats 4000000 in
set_option maxRecDepth 100000 in
theorem e_s82 (hne : cs ≠ c) (hm : isMode (S.2.1 c 0)) : Rn hc_X8_step 82 [some (.inr (some (8, c))), some (.inr (some (5, cs))), none] [] S (none, hRow S c (wEnd (S.2.1 cs) (wS6 (S.2.1 cs) (wS5 (S.2.1 cs) (wS4 (S.2.1 cs) (S.2.1 c)))))) := by
  repeat' (first | refine r_eq ?_ (e_s91 _ _ _ hne (by rw [hPut_at, pk_us]; exact isMode_wMode hm)) | refine r_step rfl rfl ?_ | refine r_call rfl rfl (e_nextMode _ _ _ hm) ?_ | with_reducible refine r_i_eq (fun c => ?_) (fun c => ?_) | with_reducible refine r_i_ne (fun c => ?_) (fun c => ?_) | with_reducible refine r_i_lt (fun c => ?_) (fun c => ?_) | with_reducible refine r_i_ge (fun c => ?_) (fun c => ?_) | with_reducible refine r_i_gt (fun c => ?_) (fun c => ?_) | with_reducible refine r_i_le (fun c => ?_) (fun c => ?_))
  all_goals simp only [wS4, hPut_at, hPut_ne hne, hPut_eq, hRow_at, hRow_row, hRow_ne _ _ hne]
set_option maxHeartbeats 4000000 in
set_option maxRecDepth 100000 in
theorem e_s61 (hne : cs ≠ c) (hm : isMode (S.2.1 c 0)) : Rn hc_X8_step 61 [some (.inr (some (8, c))), some (.inr (some (5, cs))), none] [] S (none, hRow S c (wEnd (S.2.1 cs) (wS6 (S.2.1 cs) (wS5 (S.2.1 cs) (wS4 (S.2.1 cs) (wS3 (S.2.1 c))))))) := by
  repeat' (first | refine r_eq ?_ (e_s82 _ _ _ hne (by rw [hPut_at]; exact hm)) | refine r_step rfl rfl ?_ | with_reducible refine r_i_eq (fun c => ?_) (fun c => ?_) | with_reducible refine r_i_ne (fun c => ?_) (fun c => ?_) | with_reducible refine r_i_lt (fun c => ?_) (fun c => ?_) | with_reducible refine r_i_ge (fun c => ?_) (fun c => ?_) | with_reducible refine r_i_gt (fun c => ?_) (fun c => ?_) | with_reducible refine r_i_le (fun c => ?_) (fun c => ?_))
  all_goals simp only [wS3, *, if_true, if_false, hPut_at, hPut_ne hne, hPut_eq, hRow_at, hRow_row, hRow_ne _ _ hne]
set_option maxHeartbeats 4000000 in
set_option maxRecDepth 100000 in
theorem e_s36 (hne : cs ≠ c) (hm : isMode (S.2.1 c 0)) : Rn hc_X8_step 36 [some (.inr (some (8, c))), some (.inr (some (5, cs))), none] [] S (none, hRow S c (wEnd (S.2.1 cs) (wS6 (S.2.1 cs) (wS5 (S.2.1 cs) (wS4 (S.2.1 cs) (wS3 (wS2 (S.2.1 cs) (S.2.1 c)))))))) := by
  repeat' (first | refine r_eq ?_ (e_s61 _ _ _ hne (by rw [hPut_at]; exact hm)) | refine r_step rfl rfl ?_ | with_reducible refine r_i_eq (fun c => ?_) (fun c => ?_) | with_reducible refine r_i_ne (fun c => ?_) (fun c => ?_) | with_reducible refine r_i_lt (fun c => ?_) (fun c => ?_) | with_reducible refine r_i_ge (fun c => ?_) (fun c => ?_) | with_reducible refine r_i_gt (fun c => ?_) (fun c => ?_) | with_reducible refine r_i_le (fun c => ?_) (fun c => ?_))
  all_goals simp only [wS2, *, if_true, if_false, hPut_at, hPut_ne hne, hPut_eq, hRow_at, hRow_row, hRow_ne _ _ hne]
set_option maxHeartbeats 4000000 in
set_option maxRecDepth 100000 in
theorem e_step (hne : cs ≠ c) (hm : isMode (S.2.1 c 0)) : Ev 111 [.inr (some (8, c)), .inr (some (5, cs))] S (none, hRow S c (wStep (S.2.1 cs) (S.2.1 c))) := by
  show Rn hc_X8_step 0 [some (.inr (some (8, c))), some (.inr (some (5, cs))), none] [] S _
  repeat' (first | refine r_eq ?_ (e_s36 _ _ _ hne (by rw [hPut_at]; exact hm)) | refine r_step rfl rfl ?_ | with_reducible refine r_i_eq (fun c => ?_) (fun c => ?_) | with_reducible refine r_i_ne (fun c => ?_) (fun c => ?_) | with_reducible refine r_i_lt (fun c => ?_) (fun c => ?_) | with_reducible refine r_i_ge (fun c => ?_) (fun c => ?_) | with_reducible refine r_i_gt (fun c => ?_) (fun c => ?_) | with_reducible refine r_i_le (fun c => ?_) (fun c => ?_))
  all_goals simp only [wStep, wS1, *, if_true, if_false, hPut_at, hPut_ne hne, hPut_eq, hRow_at, hRow_row, hRow_ne _ _ hne]
end
end
section
/-! Moments: copies, a tick, the past. -/
theorem r_putz0 {C : hC} {pc : Nat} {L : List (Option hV)} {r : List hV} {S : hS} {o : Option Int32 × hS} {p0 nx a b q idx c : Nat} {v x : Int32} (hf : hFetch C pc = some (p0, .putfield idx, nx, a, b, 2, q, v)) (hx : x = 0 ∨ x = 1) (k : Rn C nx L r (hPut S c b x) o) : Rn C pc L (.inl x :: .inr (some (a, c)) :: r) S o := r_putz hf hx (fun S1 e => by subst e; exact k)
def wNew (w : Nat → Int32) : Nat → Int32 := upd (upd (upd (upd (upd (upd (upd (upd (upd (upd (upd (upd (upd (upd (upd (upd w 0 0) 1 0) 2 90) 3 0) 4 0) 5 0) 6 0) 7 0) 8 0) 9 1) 10 1) 11 0) 12 0) 13 0) 14 0) 15 0
def wCopy (w u : Nat → Int32) : Nat → Int32 := upd (upd (upd (upd (upd (upd (upd (upd (upd (upd (upd (upd (upd (upd (upd (upd w 0 (u 0)) 1 (u 1)) 2 (u 2)) 3 (u 3)) 4 (u 4)) 5 (u 5)) 6 (u 6)) 7 (u 7)) 8 (u 8)) 9 (u 9)) 10 (u 10)) 11 (u 11)) 12 (u 12)) 13 (u 13)) 14 (u 14)) 15 (u 15)
def isB (x : Int32) : Prop := x = 0 ∨ x = 1
set_option maxHeartbeats 4000000 in
set_option maxRecDepth 100000 in
theorem e_wnew (c : Nat) (S : hS) : Ev 45 [.inr (some (8, c))] S (none, hRow S c (wNew (S.2.1 c))) := by
  show Rn hc_X8_startAnew 0 [some (.inr (some (8, c)))] [] S _
  repeat' (first | refine r_retn rfl ?_ | refine r_step rfl rfl ?_ | with_reducible refine r_i_eq (fun c => ?_) (fun c => ?_) | with_reducible refine r_i_ne (fun c => ?_) (fun c => ?_) | with_reducible refine r_i_lt (fun c => ?_) (fun c => ?_) | with_reducible refine r_i_ge (fun c => ?_) (fun c => ?_) | with_reducible refine r_i_gt (fun c => ?_) (fun c => ?_) | with_reducible refine r_i_le (fun c => ?_) (fun c => ?_))
  simp only [hPut_eq, hRow_at, hRow_row, wNew]
set_option maxHeartbeats 4000000 in
set_option maxRecDepth 100000 in
theorem e_wcopy (c d : Nat) (S : hS) (hne : d ≠ c) (b9 : isB (S.2.1 d 9)) (b10 : isB (S.2.1 d 10)) (b15 : isB (S.2.1 d 15)) : Ev 42 [.inr (some (8, c)), .inr (some (8, d))] S (none, hRow S c (wCopy (S.2.1 c) (S.2.1 d))) := by
  show Rn hc_X8_become 0 [some (.inr (some (8, c))), some (.inr (some (8, d)))] [] S _
  repeat' (first | refine r_step rfl rfl ?_ | with_reducible refine r_i_eq (fun c => ?_) (fun c => ?_) | with_reducible refine r_i_ne (fun c => ?_) (fun c => ?_) | with_reducible refine r_i_lt (fun c => ?_) (fun c => ?_) | with_reducible refine r_i_ge (fun c => ?_) (fun c => ?_) | with_reducible refine r_i_gt (fun c => ?_) (fun c => ?_) | with_reducible refine r_i_le (fun c => ?_) (fun c => ?_))
  simp only [hPut_ne hne, hPut_eq, hRow_at, hRow_row, hRow_ne _ _ hne]
  refine r_putz0 rfl b9 ?_
  repeat' (first | refine r_step rfl rfl ?_ | with_reducible refine r_i_eq (fun c => ?_) (fun c => ?_) | with_reducible refine r_i_ne (fun c => ?_) (fun c => ?_) | with_reducible refine r_i_lt (fun c => ?_) (fun c => ?_) | with_reducible refine r_i_ge (fun c => ?_) (fun c => ?_) | with_reducible refine r_i_gt (fun c => ?_) (fun c => ?_) | with_reducible refine r_i_le (fun c => ?_) (fun c => ?_))
  simp only [hPut_ne hne, hPut_eq, hRow_at, hRow_row, hRow_ne _ _ hne]
  refine r_putz0 rfl b10 ?_
  repeat' (first | refine r_step rfl rfl ?_ | with_reducible refine r_i_eq (fun c => ?_) (fun c => ?_) | with_reducible refine r_i_ne (fun c => ?_) (fun c => ?_) | with_reducible refine r_i_lt (fun c => ?_) (fun c => ?_) | with_reducible refine r_i_ge (fun c => ?_) (fun c => ?_) | with_reducible refine r_i_gt (fun c => ?_) (fun c => ?_) | with_reducible refine r_i_le (fun c => ?_) (fun c => ?_))
  simp only [hPut_ne hne, hPut_eq, hRow_at, hRow_row, hRow_ne _ _ hne]
  refine r_putz0 rfl b15 ?_
  refine r_retn rfl ?_
  simp only [hPut_ne hne, hPut_eq, hRow_at, hRow_row, wCopy, hRow_ne _ _ hne]
theorem wCopy_at {w u : Nat → Int32} : ∀ j, j < 16 → wCopy w u j = u j := by
  intro j hj
  match j, hj with
  | 0, _ | 1, _ | 2, _ | 3, _ | 4, _ | 5, _ | 6, _ | 7, _ | 8, _ | 9, _ | 10, _ | 11, _ | 12, _ | 13, _ | 14, _ | 15, _ => rfl
  | n + 16, h => exact absurd h (by omega)
def tNew (t : Nat → Int32) : Nat → Int32 := upd (upd t 1 0) 2 0
theorem e_tnew (c : Nat) (S : hS) : Ev 40 [.inr (some (7, c))] S (none, hRow S c (tNew (S.2.1 c))) := by
  show Rn hc_X7_startAnew 0 [some (.inr (some (7, c)))] [] S _
  repeat' (first | refine r_retn rfl ?_ | refine r_step rfl rfl ?_ | with_reducible refine r_i_eq (fun c => ?_) (fun c => ?_) | with_reducible refine r_i_ne (fun c => ?_) (fun c => ?_) | with_reducible refine r_i_lt (fun c => ?_) (fun c => ?_) | with_reducible refine r_i_ge (fun c => ?_) (fun c => ?_) | with_reducible refine r_i_gt (fun c => ?_) (fun c => ?_) | with_reducible refine r_i_le (fun c => ?_) (fun c => ?_))
  simp only [hPut_eq, hRow_at, hRow_row, tNew]
/-- a copy of a row of 40 -/
theorem e_tcopy (c d ca da : Nat) (S : hS) (h1 : S.2.2 c 0 = some (10040, ca)) (h2 : S.2.2 d 0 = some (10040, da)) (n1 : d ≠ c) (n2 : ca ≠ c) (n3 : d ≠ ca) : Ev 84 [.inr (some (7, c)), .inr (some (7, d))] S (none, hRow (hRow S ca (va_cpy (S.2.1 da) (S.2.1 ca) 0 0 40)) c (upd (upd (S.2.1 c) 1 (S.2.1 d 1)) 2 (S.2.1 d 2))) := by
  show Rn hc_X7_become 0 [some (.inr (some (7, c))), some (.inr (some (7, d)))] [] S _
  refine r_step rfl rfl ?_
  refine r_getr rfl h2 ?_
  iterate 2 refine r_step rfl rfl ?_
  refine r_getr rfl h1 ?_
  iterate 3 refine r_step rfl rfl ?_
  show Rn hc_X7_become 15 _ _ (hRow S ca (va_cpy (S.2.1 da) (S.2.1 ca) 0 0 40)) _
  generalize hV : va_cpy (S.2.1 da) (S.2.1 ca) 0 0 40 = V
  repeat' (first | refine r_retn rfl ?_ | refine r_step rfl rfl ?_ | with_reducible refine r_i_eq (fun c => ?_) (fun c => ?_) | with_reducible refine r_i_ne (fun c => ?_) (fun c => ?_) | with_reducible refine r_i_lt (fun c => ?_) (fun c => ?_) | with_reducible refine r_i_ge (fun c => ?_) (fun c => ?_) | with_reducible refine r_i_gt (fun c => ?_) (fun c => ?_) | with_reducible refine r_i_le (fun c => ?_) (fun c => ?_))
  simp only [hPut_ne n1, hPut_eq, hRow_at, hRow_row, hRow_ne _ _ n1, hRow_ne _ _ n3, hRow_ne _ _ (Ne.symm n2)]
/-- the moment at a place: its wheel, its trace, its row lie behind it -/
def isMom (S : hS) (c : Nat) : Prop := S.2.2 c 0 = some (8, c + 1) ∧ S.2.2 c 1 = some (7, c + 2) ∧ S.2.2 (c + 2) 0 = some (10040, c + 3)
def momEq (S' : hS) (c : Nat) (S : hS) (d : Nat) : Prop := (∀ j, j < 16 → S'.2.1 (c + 1) j = S.2.1 (d + 1) j) ∧ S'.2.1 (c + 2) 1 = S.2.1 (d + 2) 1 ∧ S'.2.1 (c + 2) 2 = S.2.1 (d + 2) 2 ∧ (∀ j, j < 40 → S'.2.1 (c + 3) j = S.2.1 (d + 3) j) ∧ S'.2.1 c 2 = S.2.1 d 2 ∧ S'.2.1 c 3 = S.2.1 d 3
/-- nothing but the cells from a to b changes, and there the numbers alone -/
def hFr (S S' : hS) (P : Nat → Prop) : Prop := S'.1 = S.1 ∧ S'.2.2 = S.2.2 ∧ ∀ p, ¬ P p → S'.2.1 p = S.2.1 p
theorem hFr.trans {S S1 S2 : hS} {P : Nat → Prop} (a : hFr S S1 P) (b : hFr S1 S2 P) : hFr S S2 P := ⟨b.1.trans a.1, b.2.1.trans a.2.1, fun p hp => (b.2.2 p hp).trans (a.2.2 p hp)⟩
theorem hFr.mono {S S1 : hS} {P Q : Nat → Prop} (a : hFr S S1 P) (h : ∀ p, P p → Q p) : hFr S S1 Q := ⟨a.1, a.2.1, fun p hp => a.2.2 p (fun q => hp (h p q))⟩
theorem hFr.rf (S : hS) (P : Nat → Prop) : hFr S S P := ⟨rfl, rfl, fun _ _ => rfl⟩
theorem hFr_row (S : hS) (c : Nat) (f : Nat → Int32) {P : Nat → Prop} (h : P c) : hFr S (hRow S c f) P := ⟨rfl, rfl, fun p hp => hRow_ne S f (fun e => hp (by rw [e]; exact h))⟩
theorem hFr_put (S : hS) (c k : Nat) (x : Int32) {P : Nat → Prop} (h : P c) : hFr S (hPut S c k x) P := hFr_row S c _ h
set_option maxHeartbeats 4000000 in
set_option maxRecDepth 100000 in
theorem e_mcopy (c d : Nat) (S : hS) (hc : isMom S c) (hd : isMom S d) (hap : c + 4 ≤ d ∨ d + 4 ≤ c) (b9 : isB (S.2.1 (d + 1) 9)) (b10 : isB (S.2.1 (d + 1) 10)) (b15 : isB (S.2.1 (d + 1) 15)) : ∃ S', Ev 97 [.inr (some (0, c)), .inr (some (0, d))] S (none, S') ∧ momEq S' c S d ∧ hFr S S' (fun p => c ≤ p ∧ p < c + 4) := by
  obtain ⟨c1, c2, c3⟩ := hc
  obtain ⟨d1, d2, d3⟩ := hd
  refine ⟨hRow (hRow (hRow (hRow S (c + 1) (wCopy (S.2.1 (c + 1)) (S.2.1 (d + 1)))) (c + 3) (va_cpy (S.2.1 (d + 3)) (S.2.1 (c + 3)) 0 0 40)) (c + 2) (upd (upd (S.2.1 (c + 2)) 1 (S.2.1 (d + 2) 1)) 2 (S.2.1 (d + 2) 2))) c (upd (upd (S.2.1 c) 2 (S.2.1 d 2)) 3 (S.2.1 d 3)), ?_, ?_, ?_⟩
  · show Rn hc_X0_become 0 [some (.inr (some (0, c))), some (.inr (some (0, d)))] [] S _
    refine r_step rfl rfl ?_
    refine r_getr rfl c1 ?_
    refine r_step rfl rfl ?_
    refine r_getr rfl d1 ?_
    refine r_callv rfl rfl (e_wcopy _ _ S (by omega) b9 b10 b15) ?_
    refine r_step rfl rfl ?_
    refine r_getr rfl c2 ?_
    refine r_step rfl rfl ?_
    refine r_getr rfl d2 ?_
    refine r_callv rfl rfl (e_tcopy (c + 2) (d + 2) (c + 3) (d + 3) _ c3 d3 (by omega) (by omega) (by omega)) ?_
    have n1 : d + 3 ≠ c + 1 := by omega
    have n2 : c + 3 ≠ c + 1 := by omega
    have n3 : c + 2 ≠ c + 1 := by omega
    have n4 : d + 2 ≠ c + 1 := by omega
    simp only [hRow_ne _ _ n1, hRow_ne _ _ n2, hRow_ne _ _ n3, hRow_ne _ _ n4]
    have m1 : c ≠ c + 1 := by omega
    have m2 : c ≠ c + 2 := by omega
    have m3 : c ≠ c + 3 := by omega
    have k0 : d ≠ c := by omega
    have k1 : d ≠ c + 1 := by omega
    have k2 : d ≠ c + 2 := by omega
    have k3 : d ≠ c + 3 := by omega
    repeat' (first | refine r_retn rfl ?_ | refine r_step rfl rfl ?_ | with_reducible refine r_i_eq (fun c => ?_) (fun c => ?_) | with_reducible refine r_i_ne (fun c => ?_) (fun c => ?_) | with_reducible refine r_i_lt (fun c => ?_) (fun c => ?_) | with_reducible refine r_i_ge (fun c => ?_) (fun c => ?_) | with_reducible refine r_i_gt (fun c => ?_) (fun c => ?_) | with_reducible refine r_i_le (fun c => ?_) (fun c => ?_))
    simp only [hPut_ne k0, hPut_eq, hRow_at, hRow_row, hRow_ne _ _ k0, hRow_ne _ _ k1, hRow_ne _ _ k2, hRow_ne _ _ k3, hRow_ne _ _ m1, hRow_ne _ _ m2, hRow_ne _ _ m3]
  · have a1 : c + 1 ≠ c := by omega
    have a2 : c + 1 ≠ c + 2 := by omega
    have a3 : c + 1 ≠ c + 3 := by omega
    have a4 : c + 2 ≠ c := by omega
    have a5 : c + 3 ≠ c := by omega
    have a6 : c + 3 ≠ c + 2 := by omega
    unfold momEq
    simp only [hRow_at, hRow_ne _ _ a1, hRow_ne _ _ a2, hRow_ne _ _ a3, hRow_ne _ _ a4, hRow_ne _ _ a5, hRow_ne _ _ a6]
    exact ⟨fun j hj => wCopy_at j hj, rfl, rfl, fun j hj => sb_cpy0 hj, rfl, rfl⟩
  · refine (hFr_row _ _ _ ?_).trans ((hFr_row _ _ _ ?_).trans ((hFr_row _ _ _ ?_).trans (hFr_row _ _ _ ?_)))
    all_goals exact ⟨by omega, by omega⟩
def tAdd (t : Nat → Int32) : Nat → Int32 := upd (upd t 1 (if t 1 + 1 = 40 then 0 else t 1 + 1)) 2 (jmin 40 (t 2 + 1))
theorem lt_nI {n m : Nat} (h : n < m) (hm : m < 2 ^ 31) : ¬ nI m ≤ nI n := nI_ge h hm
set_option maxHeartbeats 4000000 in
set_option maxRecDepth 100000 in
theorem e_tadd (c ca : Nat) (x : Int32) (n : Nat) (S : hS) (h9 : S.2.2 c 0 = some (10040, ca)) (hne : ca ≠ c) (hn : S.2.1 c 1 = nI n) (hl : n < 40) : Ev 83 [.inr (some (7, c)), .inl x] S (none, hRow (hRow S ca (upd (S.2.1 ca) n x)) c (tAdd (S.2.1 c))) := by
  show Rn hc_X7_add 0 [some (.inr (some (7, c))), some (.inl x)] [] S _
  have g1 : ¬ nI n < 0 := nI_pos (by omega)
  have g2 : nI n < 40 := nI_lt (b := 40) hl (by decide)
  iterate 3 refine r_step rfl rfl ?_
  refine r_i_lt (fun c => absurd (hn ▸ c) g1) (fun c1 => ?_)
  iterate 4 refine r_step rfl rfl ?_
  refine r_i_lt (fun c2 => ?_) (fun c2 => absurd (hn ▸ g2) c2)
  refine r_step rfl rfl ?_
  refine r_getr rfl h9 ?_
  iterate 3 refine r_step rfl rfl ?_
  refine r_iast rfl n (by rw [hn]; exact nI_toInt (by omega)) ⟨⟨by decide, by decide⟩, hl⟩ (fun S1 e1 => ?_)
  have e2 : S1 = hRow S ca (upd (S.2.1 ca) n x) := e1
  clear e1
  subst e2
  repeat' (first | refine r_retn rfl ?_ | refine r_step rfl rfl ?_ | refine r_call rfl rfl (e_min _ _ _) ?_ | with_reducible refine r_i_eq (fun c => ?_) (fun c => ?_) | with_reducible refine r_i_ne (fun c => ?_) (fun c => ?_) | with_reducible refine r_i_lt (fun c => ?_) (fun c => ?_) | with_reducible refine r_i_ge (fun c => ?_) (fun c => ?_) | with_reducible refine r_i_gt (fun c => ?_) (fun c => ?_) | with_reducible refine r_i_le (fun c => ?_) (fun c => ?_))
  all_goals simp only [tAdd, hPut_eq, hRow_at, hRow_row, hRow_ne _ _ (Ne.symm hne)] at *
  all_goals (clear hn g1 g2; simp only [*, if_true, if_false]; rfl)
set_option maxHeartbeats 4000000 in
set_option maxRecDepth 100000 in
theorem e_tick (c cs n : Nat) (S : hS) (hc : isMom S c) (hcs : cs < c) (hm : isMode (S.2.1 (c + 1) 0)) (hn : S.2.1 (c + 2) 1 = nI n) (hl : n < 40) :
    ∃ S', Ev 114 [.inr (some (0, c)), .inr (some (5, cs))] S (none, S') ∧ hFr S S' (fun p => c ≤ p ∧ p < c + 4) ∧ S'.2.1 (c + 1) = wStep (S.2.1 cs) (S.2.1 (c + 1)) ∧ S'.2.1 (c + 3) = upd (S.2.1 (c + 3)) n (wStep (S.2.1 cs) (S.2.1 (c + 1)) 1) ∧ S'.2.1 (c + 2) = tAdd (S.2.1 (c + 2)) ∧ S'.2.1 c 2 = S.2.1 c 2 + 1 ∧ S'.2.1 c 3 = S.2.1 c 3 + (if ¬ S.2.1 (c + 1) 0 = 5 ∧ wStep (S.2.1 cs) (S.2.1 (c + 1)) 0 = 5 then 1 else 0) := by
  obtain ⟨c1, c2, c3⟩ := hc
  have n1 : cs ≠ c + 1 := by omega
  have a1 : c + 1 ≠ c := by omega
  have a2 : c + 1 ≠ c + 2 := by omega
  have a3 : c + 1 ≠ c + 3 := by omega
  have a4 : c + 2 ≠ c := by omega
  have a5 : c + 3 ≠ c := by omega
  have a6 : c + 3 ≠ c + 2 := by omega
  have a7 : c + 2 ≠ c + 1 := by omega
  have a8 : c + 3 ≠ c + 1 := by omega
  have a9 : c ≠ c + 1 := by omega
  have b1 : c ≠ c + 2 := by omega
  have b2 : c ≠ c + 3 := by omega
  have b3 : c + 2 ≠ c + 3 := by omega
  generalize hw : wStep (S.2.1 cs) (S.2.1 (c + 1)) = w'
  -- from the trip's count on
  have key : ∀ (T : hS) (z : Int32), hFr S T (fun p => c ≤ p ∧ p < c + 4) → T.2.1 (c + 1) = w' → T.2.1 (c + 2) = S.2.1 (c + 2) → T.2.1 (c + 3) = S.2.1 (c + 3) → T.2.1 c 2 = S.2.1 c 2 → T.2.1 c 3 = S.2.1 c 3 + (if ¬ S.2.1 (c + 1) 0 = 5 ∧ w' 0 = 5 then 1 else 0) →
      ∃ S', Rn hc_X0_tick 50 [some (.inr (some (0, c))), some (.inr (some (5, cs))), some (.inl z)] [] T (none, S') ∧ hFr S S' (fun p => c ≤ p ∧ p < c + 4) ∧ S'.2.1 (c + 1) = w' ∧ S'.2.1 (c + 3) = upd (S.2.1 (c + 3)) n (w' 1) ∧ S'.2.1 (c + 2) = tAdd (S.2.1 (c + 2)) ∧ S'.2.1 c 2 = S.2.1 c 2 + 1 ∧ S'.2.1 c 3 = S.2.1 c 3 + (if ¬ S.2.1 (c + 1) 0 = 5 ∧ w' 0 = 5 then 1 else 0) := by
    intro T z f t1 t2 t3 t4 t5
    have r1 : T.2.2 c 0 = some (8, c + 1) := by rw [f.2.1]; exact c1
    have r2 : T.2.2 c 1 = some (7, c + 2) := by rw [f.2.1]; exact c2
    have r3 : T.2.2 (c + 2) 0 = some (10040, c + 3) := by rw [f.2.1]; exact c3
    refine ⟨hPut (hRow (hRow T (c + 3) (upd (T.2.1 (c + 3)) n (T.2.1 (c + 1) 1))) (c + 2) (tAdd (T.2.1 (c + 2)))) c 2 (T.2.1 c 2 + 1), ?_, ?_, ?_, ?_, ?_, ?_, ?_⟩
    · refine r_step rfl rfl ?_
      refine r_getr rfl r2 ?_
      refine r_step rfl rfl ?_
      refine r_getr rfl r1 ?_
      refine r_step rfl rfl ?_
      refine r_callv rfl rfl (e_tadd (c + 2) (c + 3) _ n T r3 a6 (by rw [t2]; exact hn) hl) ?_
      repeat' (first | refine r_retn rfl ?_ | refine r_step rfl rfl ?_ | with_reducible refine r_i_eq (fun c => ?_) (fun c => ?_) | with_reducible refine r_i_ne (fun c => ?_) (fun c => ?_) | with_reducible refine r_i_lt (fun c => ?_) (fun c => ?_) | with_reducible refine r_i_ge (fun c => ?_) (fun c => ?_) | with_reducible refine r_i_gt (fun c => ?_) (fun c => ?_) | with_reducible refine r_i_le (fun c => ?_) (fun c => ?_))
      simp only [hRow_ne _ _ b1, hRow_ne _ _ b2]
    · refine f.trans ((hFr_row _ _ _ ?_).trans ((hFr_row _ _ _ ?_).trans (hFr_put _ _ _ _ ?_)))
      all_goals exact ⟨by omega, by omega⟩
    · rw [hPut_ne a1, hRow_ne _ _ a2, hRow_ne _ _ a3]; exact t1
    · rw [hPut_ne a5, hRow_ne _ _ a6, hRow_at, t3, t1]
    · rw [hPut_ne a4, hRow_at, t2]
    · rw [hPut_at, pk_us, t4]
    · rw [hPut_at, pk_un (by decide), hRow_ne _ _ b1, hRow_ne _ _ b2, t5]
  have hs := e_step (c + 1) cs S n1 hm
  rw [hw] at hs
  have start : ∀ (z : Int32) (o : Option Int32 × hS), (Rn hc_X0_tick 25 [some (.inr (some (0, c))), some (.inr (some (5, cs))), some (.inl z)] [] (hRow S (c + 1) w') o) → Rn hc_X0_tick 16 [some (.inr (some (0, c))), some (.inr (some (5, cs))), none] [.inl z] S o := by
    intro z o k
    iterate 2 refine r_step rfl rfl ?_
    refine r_getr rfl c1 ?_
    refine r_step rfl rfl ?_
    exact r_callv rfl rfl hs k
  have f0 : hFr S (hRow S (c + 1) w') (fun p => c ≤ p ∧ p < c + 4) := hFr_row _ _ _ ⟨by omega, by omega⟩
  have fin : ∀ o, (∀ z : Int32, ((S.2.1 (c + 1) 0 = 5 ∧ z = 1) ∨ (¬ S.2.1 (c + 1) 0 = 5 ∧ z = 0)) → Rn hc_X0_tick 16 [some (.inr (some (0, c))), some (.inr (some (5, cs))), none] [.inl z] S o) → Ev 114 [.inr (some (0, c)), .inr (some (5, cs))] S o := by
    intro o k
    show Rn hc_X0_tick 0 [some (.inr (some (0, c))), some (.inr (some (5, cs))), none] [] S o
    refine r_step rfl rfl ?_
    refine r_getr rfl c1 ?_
    iterate 3 refine r_step rfl rfl ?_
    refine r_i_ne (fun q => ?_) (fun q => ?_)
    · refine r_step rfl rfl ?_
      exact k 0 (Or.inr ⟨q, rfl⟩)
    · iterate 2 refine r_step rfl rfl ?_
      exact k 1 (Or.inl ⟨q, rfl⟩)
  by_cases q0 : S.2.1 (c + 1) 0 = 5
  · obtain ⟨S', k1, k2⟩ := key (hRow S (c + 1) w') 1 f0 (hRow_at _ _ _) (hRow_ne _ _ a7) (hRow_ne _ _ a8) (by rw [hRow_ne _ _ a9]) (by rw [hRow_ne _ _ a9, if_neg (fun h => h.1 q0)]; simp)
    refine ⟨S', fin _ (fun z hz => ?_), k2⟩
    have hz : z = 1 := by
      rcases hz with h | h
      · exact h.2
      · exact absurd q0 h.1
    subst hz
    refine start 1 _ ?_
    iterate 2 refine r_step rfl rfl ?_
    exact k1
  · by_cases q1 : w' 0 = 5
    · obtain ⟨S', k1, k2⟩ := key (hPut (hRow S (c + 1) w') c 3 (S.2.1 c 3 + 1)) 0 (f0.trans (hFr_put _ _ _ _ ⟨by omega, by omega⟩)) (by rw [hPut_ne a1, hRow_at]) (by rw [hPut_ne a4, hRow_ne _ _ a7]) (by rw [hPut_ne a5, hRow_ne _ _ a8]) (by rw [hPut_at, pk_un (by decide), hRow_ne _ _ a9]) (by rw [hPut_at, pk_us, if_pos ⟨q0, q1⟩])
      refine ⟨S', fin _ (fun z hz => ?_), k2⟩
      have hz : z = 0 := by
        rcases hz with h | h
        · exact absurd h.1 q0
        · exact h.2
      subst hz
      refine start 0 _ ?_
      iterate 3 refine r_step rfl rfl ?_
      refine r_getr rfl c1 ?_
      iterate 3 refine r_step rfl rfl ?_
      refine r_i_ne (fun q => absurd (by rw [hRow_at]; exact q1) q) (fun q => ?_)
      iterate 6 refine r_step rfl rfl ?_
      rw [hRow_ne _ _ a9]
      exact k1
    · obtain ⟨S', k1, k2⟩ := key (hRow S (c + 1) w') 0 f0 (hRow_at _ _ _) (hRow_ne _ _ a7) (hRow_ne _ _ a8) (by rw [hRow_ne _ _ a9]) (by rw [hRow_ne _ _ a9, if_neg (fun h => q1 h.2)]; simp)
      refine ⟨S', fin _ (fun z hz => ?_), k2⟩
      have hz : z = 0 := by
        rcases hz with h | h
        · exact absurd h.1 q0
        · exact h.2
      subst hz
      refine start 0 _ ?_
      iterate 3 refine r_step rfl rfl ?_
      refine r_getr rfl c1 ?_
      iterate 3 refine r_step rfl rfl ?_
      refine r_i_ne (fun q => k1) (fun q => absurd (by rw [hRow_at] at q; exact q) q1)
/-- floorMod over small numbers -/
theorem fm_ring40 : ∀ n, n < 40 → ∀ k, k < 40 → jfmod (nI n - 1 - nI k) 40 = nI ((n + 39 - k) % 40) := by decide +kernel
theorem fm_6 : ∀ n, n < 6 → jfmod (nI n) 6 = nI n ∧ jfmod (nI n + 1) 6 = nI ((n + 1) % 6) ∧ jfmod (nI n - 1) 6 = nI ((n + 5) % 6) := by decide +kernel
set_option maxHeartbeats 4000000 in
set_option maxRecDepth 100000 in
theorem e_speedAgo (c ca : Nat) (k : Int32) (n z : Nat) (S : hS) (h9 : S.2.2 c 0 = some (10040, ca)) (hn : S.2.1 c 1 = nI n) (hl : n < 40) (hz : S.2.1 c 2 = nI z) (hzl : z ≤ 40) : Ev 86 [.inr (some (7, c)), .inl k] S (some (if k < 0 then -9 else if k < nI z then S.2.1 ca ((n + 39 - k.toNatClampNeg) % 40) else -9), S) := by
  show Rn hc_X7_speedAgo 0 [some (.inr (some (7, c))), some (.inl k)] [] S _
  iterate 2 refine r_step rfl rfl ?_
  refine r_i_lt (fun c0 => ?_) (fun c0 => ?_)
  · refine r_step rfl rfl ?_
    refine r_reti rfl ?_ rfl
    rw [if_pos c0]
  · rw [if_neg c0]
    iterate 4 refine r_step rfl rfl ?_
    refine r_i_lt (fun c1 => ?_) (fun c1 => ?_)
    · rw [hz] at c1
      rw [if_pos c1]
      obtain ⟨j, hj, rfl⟩ := nI_of c0
      have hjz : j < z := (nI_ltI hj (by omega)).mp c1
      have e1 : (nI j).toNatClampNeg = j := nI_clamp hj
      rw [e1]
      refine r_step rfl rfl ?_
      refine r_getr rfl h9 ?_
      iterate 7 refine r_step rfl rfl ?_
      refine r_call rfl rfl (e_floorMod _ _ _ (by decide)) ?_
      rw [hn, fm_ring40 n hl j (by omega)]
      refine r_iald rfl ((n + 39 - j) % 40) (nI_toInt (by omega)) ⟨⟨by decide, by decide⟩, Nat.mod_lt _ (by decide)⟩ ?_
      exact r_reti rfl rfl rfl
    · rw [hz] at c1
      rw [if_neg c1]
      refine r_step rfl rfl ?_
      exact r_reti rfl rfl rfl
/-- the past: 10 at its place, its six moments from 12 on -/
def isPast (S : hS) : Prop := S.2.2 10 0 = some (30006, 11) ∧ ∀ i, i < 6 → S.2.2 11 i = some (0, 12 + 4 * i) ∧ isMom S (12 + 4 * i)
theorem e_plose (S : hS) : Ev 26 [.inr (some (1, 10))] S (none, hPut S 10 2 0) := by
  show Rn hc_X1_lose 0 [some (.inr (some (1, 10)))] [] S _
  repeat' (first | refine r_retn rfl ?_ | refine r_step rfl rfl ?_ | with_reducible refine r_i_eq (fun c => ?_) (fun c => ?_) | with_reducible refine r_i_ne (fun c => ?_) (fun c => ?_) | with_reducible refine r_i_lt (fun c => ?_) (fun c => ?_) | with_reducible refine r_i_ge (fun c => ?_) (fun c => ?_) | with_reducible refine r_i_gt (fun c => ?_) (fun c => ?_) | with_reducible refine r_i_le (fun c => ?_) (fun c => ?_))
  rfl
theorem isMom.fr {S S' : hS} {c : Nat} {P : Nat → Prop} (h : isMom S c) (f : hFr S S' P) : isMom S' c := by
  unfold isMom
  rw [f.2.1]
  exact h
set_option maxHeartbeats 4000000 in
set_option maxRecDepth 100000 in
theorem e_padd (n : Nat) (S : hS) (hp : isPast S) (hc : isMom S 6) (hn : S.2.1 10 1 = nI n) (hl : n < 6) (b9 : isB (S.2.1 7 9)) (b10 : isB (S.2.1 7 10)) (b15 : isB (S.2.1 7 15)) :
    ∃ S', Ev 120 [.inr (some (1, 10)), .inr (some (0, 6))] S (none, S') ∧ momEq S' (12 + 4 * n) S 6 ∧ hFr S S' (fun p => p = 10 ∨ (12 + 4 * n ≤ p ∧ p < 16 + 4 * n)) ∧ S'.2.1 10 1 = nI ((n + 1) % 6) ∧ S'.2.1 10 2 = jmin 6 (S.2.1 10 2 + 1) := by
  obtain ⟨p1, p2⟩ := hp
  obtain ⟨m1, m2⟩ := p2 n hl
  obtain ⟨S1, k1, k2, k3⟩ := e_mcopy (12 + 4 * n) 6 S m2 hc (Or.inr (by omega)) b9 b10 b15
  have e10 : S1.2.1 10 = S.2.1 10 := k3.2.2 10 (by omega)
  refine ⟨hPut (hPut S1 10 1 (nI ((n + 1) % 6))) 10 2 (jmin 6 (S.2.1 10 2 + 1)), ?_, ?_, ?_, ?_, ?_⟩
  · show Rn hc_X1_add 0 [some (.inr (some (1, 10))), some (.inr (some (0, 6)))] [] S _
    refine r_step rfl rfl ?_
    refine r_getr rfl p1 ?_
    iterate 3 refine r_step rfl rfl ?_
    refine r_call rfl rfl (e_floorMod _ _ _ (by decide)) ?_
    rw [hn, (fm_6 n hl).1]
    refine r_aald rfl n (nI_toInt (by omega)) ⟨⟨by decide, by decide⟩, hl⟩ m1 ?_
    refine r_step rfl rfl ?_
    refine r_callv rfl rfl k1 ?_
    iterate 6 refine r_step rfl rfl ?_
    refine r_call rfl rfl (e_floorMod _ _ _ (by decide)) ?_
    rw [e10, hn, (fm_6 n hl).2.1]
    repeat' (first | refine r_retn rfl ?_ | refine r_step rfl rfl ?_ | refine r_call rfl rfl (e_min _ _ _) ?_ | with_reducible refine r_i_eq (fun c => ?_) (fun c => ?_) | with_reducible refine r_i_ne (fun c => ?_) (fun c => ?_) | with_reducible refine r_i_lt (fun c => ?_) (fun c => ?_) | with_reducible refine r_i_ge (fun c => ?_) (fun c => ?_) | with_reducible refine r_i_gt (fun c => ?_) (fun c => ?_) | with_reducible refine r_i_le (fun c => ?_) (fun c => ?_))
    simp only [hPut_eq, hRow_at, hRow_row, e10]
    rfl
  · obtain ⟨q1, q2, q3, q4, q5, q6⟩ := k2
    refine ⟨fun j hj => ?_, ?_, ?_, fun j hj => ?_, ?_, ?_⟩
    · rw [hPut_ne (by omega), hPut_ne (by omega)]; exact q1 j hj
    · rw [hPut_ne (by omega), hPut_ne (by omega)]; exact q2
    · rw [hPut_ne (by omega), hPut_ne (by omega)]; exact q3
    · rw [hPut_ne (by omega), hPut_ne (by omega)]; exact q4 j hj
    · rw [hPut_ne (by omega), hPut_ne (by omega)]; exact q5
    · rw [hPut_ne (by omega), hPut_ne (by omega)]; exact q6
  · refine (k3.mono (fun p hp => ?_)).trans ((hFr_put _ _ _ _ (Or.inl rfl)).trans (hFr_put _ _ _ _ (Or.inl rfl)))
    exact Or.inr ⟨hp.1, by have := hp.2; omega⟩
  · rw [hPut_at, pk_un (by decide), hPut_at, pk_us]
  · rw [hPut_at, pk_us]
set_option maxHeartbeats 4000000 in
set_option maxRecDepth 100000 in
theorem e_ptake (n z : Nat) (S : hS) (hp : isPast S) (hc : isMom S 6) (hn : S.2.1 10 1 = nI n) (hl : n < 6) (hz : S.2.1 10 2 = nI z) (hz0 : 0 < z) (hz6 : z ≤ 6) (b9 : isB (S.2.1 (13 + 4 * ((n + 5) % 6)) 9)) (b10 : isB (S.2.1 (13 + 4 * ((n + 5) % 6)) 10)) (b15 : isB (S.2.1 (13 + 4 * ((n + 5) % 6)) 15)) :
    ∃ S', Ev 122 [.inr (some (1, 10)), .inr (some (0, 6))] S (none, S') ∧ momEq S' 6 S (12 + 4 * ((n + 5) % 6)) ∧ hFr S S' (fun p => p = 10 ∨ (6 ≤ p ∧ p < 10)) ∧ S'.2.1 10 1 = nI ((n + 5) % 6) ∧ S'.2.1 10 2 = nI (z - 1) := by
  obtain ⟨p1, p2⟩ := hp
  generalize hm9 : (n + 5) % 6 = m at *
  have hml : m < 6 := by rw [← hm9]; exact Nat.mod_lt _ (by decide)
  obtain ⟨m1, m2⟩ := p2 m hml
  have e0 : ∀ p, p ≠ 10 → (hPut S 10 1 (nI m)).2.1 p = S.2.1 p := fun p hp => hPut_ne hp
  obtain ⟨S1, k1, k2, k3⟩ := e_mcopy 6 (12 + 4 * m) (hPut S 10 1 (nI m)) (show isMom S 6 from hc) (show isMom S _ from m2) (Or.inl (by omega)) (by rw [e0 _ (by omega)]; rw [show 12 + 4 * m + 1 = 13 + 4 * m by omega]; exact b9) (by rw [e0 _ (by omega)]; rw [show 12 + 4 * m + 1 = 13 + 4 * m by omega]; exact b10) (by rw [e0 _ (by omega)]; rw [show 12 + 4 * m + 1 = 13 + 4 * m by omega]; exact b15)
  have e10 : S1.2.1 10 = upd (S.2.1 10) 1 (nI m) := by rw [k3.2.2 10 (by omega), hPut_at]
  have g0 : ¬ nI z ≤ 0 := nI_nle hz0 (by omega)
  refine ⟨hPut S1 10 2 (nI (z - 1)), ?_, ?_, ?_, ?_, ?_⟩
  · show Rn hc_X1_takeLatest 0 [some (.inr (some (1, 10))), some (.inr (some (0, 6)))] [] S _
    iterate 3 refine r_step rfl rfl ?_
    refine r_i_le (fun q => absurd (hz ▸ q) g0) (fun q => ?_)
    iterate 6 refine r_step rfl rfl ?_
    refine r_call rfl rfl (e_floorMod _ _ _ (by decide)) ?_
    rw [hn, (fm_6 n hl).2.2, hm9]
    iterate 3 refine r_step rfl rfl ?_
    refine r_getr rfl p1 ?_
    iterate 2 refine r_step rfl rfl ?_
    rw [hPut_at, pk_us]
    refine r_aald rfl m (nI_toInt (by omega)) ⟨⟨by decide, by decide⟩, hml⟩ m1 ?_
    refine r_callv rfl rfl k1 ?_
    repeat' (first | refine r_retn rfl ?_ | refine r_step rfl rfl ?_ | with_reducible refine r_i_eq (fun c => ?_) (fun c => ?_) | with_reducible refine r_i_ne (fun c => ?_) (fun c => ?_) | with_reducible refine r_i_lt (fun c => ?_) (fun c => ?_) | with_reducible refine r_i_ge (fun c => ?_) (fun c => ?_) | with_reducible refine r_i_gt (fun c => ?_) (fun c => ?_) | with_reducible refine r_i_le (fun c => ?_) (fun c => ?_))
    rw [e10, pk_un (by decide), hz]
    have e5 : nI z - 1 = nI (z - 1) := by
      obtain ⟨y, rfl⟩ : ∃ y, z = y + 1 := ⟨z - 1, by omega⟩
      exact nI_pred y
    rw [e5]
  · obtain ⟨q1, q2, q3, q4, q5, q6⟩ := k2
    refine ⟨fun j hj => ?_, ?_, ?_, fun j hj => ?_, ?_, ?_⟩
    · rw [hPut_ne (by omega), q1 j hj, e0 _ (by omega)]
    · rw [hPut_ne (by omega), q2, e0 _ (by omega)]
    · rw [hPut_ne (by omega), q3, e0 _ (by omega)]
    · rw [hPut_ne (by omega), q4 j hj, e0 _ (by omega)]
    · rw [hPut_ne (by omega), q5, e0 _ (by omega)]
    · rw [hPut_ne (by omega), q6, e0 _ (by omega)]
  · refine (hFr_put S 10 1 (nI m) (Or.inl rfl)).trans ((k3.mono (fun p hp => ?_)).trans (hFr_put _ _ _ _ (Or.inl rfl)))
    exact Or.inr ⟨hp.1, by have := hp.2; omega⟩
  · rw [hPut_at, pk_un (by decide), e10, pk_us]
  · rw [hPut_at, pk_us]
end
section
/-! The model's tick. -/
theorem r_iast0 {C : hC} {pc : Nat} {L : List (Option hV)} {r : List hV} {S : hS} {o : Option Int32 × hS} {p0 nx a b d q : Nat} {v i x : Int32} {k c : Nat} (hf : hFetch C pc = some (p0, .iastore, nx, a, b, d, q, v)) (j : Nat) (hi : i.toInt = (j : Int)) (hj : (10000 ≤ k ∧ k < 20000) ∧ j < k % 10000) (kk : Rn C nx L r (hPut S c j x) o) : Rn C pc L (.inl x :: .inl i :: .inr (some (k, c)) :: r) S o := r_iast hf j hi hj (fun S1 e => by subst e; exact kk)
def mIn (v lo hi : Int32) : Int32 := if v < lo then 0 else if hi < v then 0 else 1
def mAway (a b : Int32) : Int32 := if a ≤ b then b - a else a - b
def mErr (w : Nat → Int32) : Int32 := if mAway (w 6) (w 5) ≤ 18 then mAway (w 6) (w 5) else 36 - mAway (w 6) (w 5)
def mDrive (w : Nat → Int32) : Int32 := w 4 * (if 0 ≤ 9 - mErr w then 9 - mErr w else 0) * (10 - w 8) * (90 - w 2) / 1620
def mWd (st w : Nat → Int32) : Int32 := if mAway (w 7) 0 < st 4 then 0 else 1
def mTow (f t b : Int32) : Int32 := if t ≤ f + b then (if f - b ≤ t then t else f - b) else f + b
def mC1 (st w : Nat → Int32) : Nat → Int32 := upd w 11 (if mIn (w 4) (st 2) (st 3 - 1) = 0 then 0 else w 11 + 1)
def mC2 (st w : Nat → Int32) : Nat → Int32 := upd w 12 (if w 4 < st 3 then 0 else w 12 + 1)
def mC3 (w : Nat → Int32) : Nat → Int32 := upd w 13 (if w 9 = 0 then w 13 + 1 else 0)
theorem e_in (v lo hi : Int32) (S : hS) : Ev 10 [.inl v, .inl lo, .inl hi] S (some (mIn v lo hi), S) := by
  show Rn hc_X10_in 0 [some (.inl v), some (.inl lo), some (.inl hi)] [] S _
  repeat' (first | refine r_step rfl rfl ?_ | with_reducible refine r_i_eq (fun c => ?_) (fun c => ?_) | with_reducible refine r_i_ne (fun c => ?_) (fun c => ?_) | with_reducible refine r_i_lt (fun c => ?_) (fun c => ?_) | with_reducible refine r_i_ge (fun c => ?_) (fun c => ?_) | with_reducible refine r_i_gt (fun c => ?_) (fun c => ?_) | with_reducible refine r_i_le (fun c => ?_) (fun c => ?_))
  all_goals refine r_retz rfl (by first | exact Or.inl rfl | exact Or.inr rfl) ?_ rfl
  all_goals simp only [mIn, *, if_true, if_false]
theorem e_away (a b : Int32) (S : hS) : Ev 6 [.inl a, .inl b] S (some (mAway a b), S) := by
  show Rn hc_X10_away 0 [some (.inl a), some (.inl b)] [] S _
  repeat' (first | refine r_step rfl rfl ?_ | with_reducible refine r_i_eq (fun c => ?_) (fun c => ?_) | with_reducible refine r_i_ne (fun c => ?_) (fun c => ?_) | with_reducible refine r_i_lt (fun c => ?_) (fun c => ?_) | with_reducible refine r_i_ge (fun c => ?_) (fun c => ?_) | with_reducible refine r_i_gt (fun c => ?_) (fun c => ?_) | with_reducible refine r_i_le (fun c => ?_) (fun c => ?_))
  all_goals refine r_reti rfl ?_ rfl
  all_goals simp only [mAway, *, if_true, if_false]
section
variable (r : Nat) (S : hS)
set_option maxHeartbeats 4000000 in
set_option maxRecDepth 100000 in
theorem e_errorOf : Ev 60 [.inr (some (10, 57)), .inr (some (10059, r))] S (some (mErr (S.2.1 r)), S) := by
  show Rn hc_X10_errorOf 0 [some (.inr (some (10, 57))), some (.inr (some (10059, r))), none] [] S _
  repeat' (first | refine r_iald rfl 5 rfl ⟨⟨by decide, by decide⟩, by decide⟩ ?_ | refine r_iald rfl 6 rfl ⟨⟨by decide, by decide⟩, by decide⟩ ?_ | refine r_step rfl rfl ?_ | refine r_call rfl rfl (e_away _ _ _) ?_ | with_reducible refine r_i_eq (fun c => ?_) (fun c => ?_) | with_reducible refine r_i_ne (fun c => ?_) (fun c => ?_) | with_reducible refine r_i_lt (fun c => ?_) (fun c => ?_) | with_reducible refine r_i_ge (fun c => ?_) (fun c => ?_) | with_reducible refine r_i_gt (fun c => ?_) (fun c => ?_) | with_reducible refine r_i_le (fun c => ?_) (fun c => ?_))
  all_goals refine r_reti rfl ?_ rfl
  all_goals simp only [mErr, *, if_true, if_false]
set_option maxHeartbeats 4000000 in
set_option maxRecDepth 100000 in
theorem e_driveOf : Ev 99 [.inr (some (10, 57)), .inr (some (10059, r))] S (some (mDrive (S.2.1 r)), S) := by
  show Rn hc_X10_driveOf 0 [some (.inr (some (10, 57))), some (.inr (some (10059, r))), none] [] S _
  repeat' (first | refine r_iald rfl 2 rfl ⟨⟨by decide, by decide⟩, by decide⟩ ?_ | refine r_iald rfl 4 rfl ⟨⟨by decide, by decide⟩, by decide⟩ ?_ | refine r_iald rfl 8 rfl ⟨⟨by decide, by decide⟩, by decide⟩ ?_ | refine r_step rfl rfl ?_ | refine r_call rfl rfl (e_errorOf _ _) ?_ | refine r_div rfl (by decide) ?_ | with_reducible refine r_i_eq (fun c => ?_) (fun c => ?_) | with_reducible refine r_i_ne (fun c => ?_) (fun c => ?_) | with_reducible refine r_i_lt (fun c => ?_) (fun c => ?_) | with_reducible refine r_i_ge (fun c => ?_) (fun c => ?_) | with_reducible refine r_i_gt (fun c => ?_) (fun c => ?_) | with_reducible refine r_i_le (fun c => ?_) (fun c => ?_))
  all_goals refine r_reti rfl ?_ rfl
  all_goals simp only [mDrive, *, if_true, if_false]
end
section
variable (r : Nat) (S : hS) (hs : S.2.2 57 6 = some (10006, 63))
set_option maxHeartbeats 4000000 in
set_option maxRecDepth 100000 in
theorem e_mWound (hs : S.2.2 57 6 = some (10006, 63)) : Ev 65 [.inr (some (10, 57)), .inr (some (10059, r))] S (some (mWd (S.2.1 63) (S.2.1 r)), S) := by
  show Rn hc_X10_isWound 0 [some (.inr (some (10, 57))), some (.inr (some (10059, r)))] [] S _
  repeat' (first | refine r_getr rfl hs ?_ | refine r_iald rfl 4 rfl ⟨⟨by decide, by decide⟩, by decide⟩ ?_ | refine r_iald rfl 7 rfl ⟨⟨by decide, by decide⟩, by decide⟩ ?_ | refine r_step rfl rfl ?_ | refine r_call rfl rfl (e_away _ _ _) ?_ | with_reducible refine r_i_eq (fun c => ?_) (fun c => ?_) | with_reducible refine r_i_ne (fun c => ?_) (fun c => ?_) | with_reducible refine r_i_lt (fun c => ?_) (fun c => ?_) | with_reducible refine r_i_ge (fun c => ?_) (fun c => ?_) | with_reducible refine r_i_gt (fun c => ?_) (fun c => ?_) | with_reducible refine r_i_le (fun c => ?_) (fun c => ?_))
  all_goals refine r_retz rfl (by first | exact Or.inl rfl | exact Or.inr rfl) ?_ rfl
  all_goals simp only [mWd, *, if_true, if_false]
def mCounts (st w : Nat → Int32) : Nat → Int32 := mC3 (mC2 st (mC1 st w))
set_option maxHeartbeats 4000000 in
set_option maxRecDepth 100000 in
theorem e_c63 (hs : S.2.2 57 6 = some (10006, 63)) : Rn hc_X10_counts 63 [some (.inr (some (10, 57))), some (.inr (some (10059, r)))] [] S (none, hRow S r (mC3 (S.2.1 r))) := by
  repeat' (first | refine r_getr rfl hs ?_ | refine r_retn rfl ?_ | refine r_iald rfl 2 rfl ⟨⟨by decide, by decide⟩, by decide⟩ ?_ | refine r_iald rfl 3 rfl ⟨⟨by decide, by decide⟩, by decide⟩ ?_ | refine r_iald rfl 4 rfl ⟨⟨by decide, by decide⟩, by decide⟩ ?_ | refine r_iald rfl 9 rfl ⟨⟨by decide, by decide⟩, by decide⟩ ?_ | refine r_iald rfl 11 rfl ⟨⟨by decide, by decide⟩, by decide⟩ ?_ | refine r_iald rfl 12 rfl ⟨⟨by decide, by decide⟩, by decide⟩ ?_ | refine r_iald rfl 13 rfl ⟨⟨by decide, by decide⟩, by decide⟩ ?_ | refine r_iast0 rfl 4 rfl ⟨⟨by decide, by decide⟩, by decide⟩ ?_ | refine r_iast0 rfl 9 rfl ⟨⟨by decide, by decide⟩, by decide⟩ ?_ | refine r_iast0 rfl 11 rfl ⟨⟨by decide, by decide⟩, by decide⟩ ?_ | refine r_iast0 rfl 12 rfl ⟨⟨by decide, by decide⟩, by decide⟩ ?_ | refine r_iast0 rfl 13 rfl ⟨⟨by decide, by decide⟩, by decide⟩ ?_ | refine r_step rfl rfl ?_ | with_reducible refine r_i_eq (fun c => ?_) (fun c => ?_) | with_reducible refine r_i_ne (fun c => ?_) (fun c => ?_) | with_reducible refine r_i_lt (fun c => ?_) (fun c => ?_) | with_reducible refine r_i_ge (fun c => ?_) (fun c => ?_) | with_reducible refine r_i_gt (fun c => ?_) (fun c => ?_) | with_reducible refine r_i_le (fun c => ?_) (fun c => ?_))
  all_goals simp only [mC3, *, if_true, if_false, hPut_eq]
set_option maxHeartbeats 4000000 in
set_option maxRecDepth 100000 in
theorem e_c37 (hs : S.2.2 57 6 = some (10006, 63)) (hne : 63 ≠ r) : Rn hc_X10_counts 37 [some (.inr (some (10, 57))), some (.inr (some (10059, r)))] [] S (none, hRow S r (mC3 (mC2 (S.2.1 63) (S.2.1 r)))) := by
  repeat' (first | refine r_getr rfl hs ?_ | refine r_eq ?_ (e_c63 _ _ hs) | refine r_iald rfl 2 rfl ⟨⟨by decide, by decide⟩, by decide⟩ ?_ | refine r_iald rfl 3 rfl ⟨⟨by decide, by decide⟩, by decide⟩ ?_ | refine r_iald rfl 4 rfl ⟨⟨by decide, by decide⟩, by decide⟩ ?_ | refine r_iald rfl 9 rfl ⟨⟨by decide, by decide⟩, by decide⟩ ?_ | refine r_iald rfl 11 rfl ⟨⟨by decide, by decide⟩, by decide⟩ ?_ | refine r_iald rfl 12 rfl ⟨⟨by decide, by decide⟩, by decide⟩ ?_ | refine r_iald rfl 13 rfl ⟨⟨by decide, by decide⟩, by decide⟩ ?_ | refine r_iast0 rfl 4 rfl ⟨⟨by decide, by decide⟩, by decide⟩ ?_ | refine r_iast0 rfl 9 rfl ⟨⟨by decide, by decide⟩, by decide⟩ ?_ | refine r_iast0 rfl 11 rfl ⟨⟨by decide, by decide⟩, by decide⟩ ?_ | refine r_iast0 rfl 12 rfl ⟨⟨by decide, by decide⟩, by decide⟩ ?_ | refine r_iast0 rfl 13 rfl ⟨⟨by decide, by decide⟩, by decide⟩ ?_ | refine r_step rfl rfl ?_ | with_reducible refine r_i_eq (fun c => ?_) (fun c => ?_) | with_reducible refine r_i_ne (fun c => ?_) (fun c => ?_) | with_reducible refine r_i_lt (fun c => ?_) (fun c => ?_) | with_reducible refine r_i_ge (fun c => ?_) (fun c => ?_) | with_reducible refine r_i_gt (fun c => ?_) (fun c => ?_) | with_reducible refine r_i_le (fun c => ?_) (fun c => ?_))
  all_goals simp only [mC2, *, if_true, if_false, hPut_at, hPut_eq, hRow_at, hRow_row]
set_option maxHeartbeats 4000000 in
set_option maxRecDepth 100000 in
theorem e_counts (hs : S.2.2 57 6 = some (10006, 63)) (hne : 63 ≠ r) : Ev 59 [.inr (some (10, 57)), .inr (some (10059, r))] S (none, hRow S r (mCounts (S.2.1 63) (S.2.1 r))) := by
  show Rn hc_X10_counts 0 [some (.inr (some (10, 57))), some (.inr (some (10059, r)))] [] S _
  repeat' (first | refine r_getr rfl hs ?_ | refine r_eq ?_ (e_c37 _ _ hs hne) | refine r_iald rfl 2 rfl ⟨⟨by decide, by decide⟩, by decide⟩ ?_ | refine r_iald rfl 3 rfl ⟨⟨by decide, by decide⟩, by decide⟩ ?_ | refine r_iald rfl 4 rfl ⟨⟨by decide, by decide⟩, by decide⟩ ?_ | refine r_iald rfl 9 rfl ⟨⟨by decide, by decide⟩, by decide⟩ ?_ | refine r_iald rfl 11 rfl ⟨⟨by decide, by decide⟩, by decide⟩ ?_ | refine r_iald rfl 12 rfl ⟨⟨by decide, by decide⟩, by decide⟩ ?_ | refine r_iald rfl 13 rfl ⟨⟨by decide, by decide⟩, by decide⟩ ?_ | refine r_iast0 rfl 4 rfl ⟨⟨by decide, by decide⟩, by decide⟩ ?_ | refine r_iast0 rfl 9 rfl ⟨⟨by decide, by decide⟩, by decide⟩ ?_ | refine r_iast0 rfl 11 rfl ⟨⟨by decide, by decide⟩, by decide⟩ ?_ | refine r_iast0 rfl 12 rfl ⟨⟨by decide, by decide⟩, by decide⟩ ?_ | refine r_iast0 rfl 13 rfl ⟨⟨by decide, by decide⟩, by decide⟩ ?_ | refine r_step rfl rfl ?_ | refine r_call rfl rfl (e_in _ _ _ _) ?_ | with_reducible refine r_i_eq (fun c => ?_) (fun c => ?_) | with_reducible refine r_i_ne (fun c => ?_) (fun c => ?_) | with_reducible refine r_i_lt (fun c => ?_) (fun c => ?_) | with_reducible refine r_i_ge (fun c => ?_) (fun c => ?_) | with_reducible refine r_i_gt (fun c => ?_) (fun c => ?_) | with_reducible refine r_i_le (fun c => ?_) (fun c => ?_))
  all_goals simp only [mCounts, mC1, *, if_true, if_false, hPut_at, hPut_eq, hRow_at, hRow_row, hRow_ne _ _ hne, hPut_ne hne]
end
def mMode (st w : Nat → Int32) : Int32 :=
  if ¬ w 1 ≤ st 1 ∧ (w 0 = 1 ∨ w 0 = 2 ∨ w 0 = 3 ∨ w 0 = 4) then 5 else
  if (w 0 = 1 ∨ w 0 = 2 ∨ w 0 = 3) ∧ (w 10 = 0 ∨ 2 ≤ w 12 ∨ 4 ≤ w 13 ∨ ¬ mWd st w = 0) then 4 else
  if w 0 = 0 then (if w 10 = 1 ∧ ¬ w 11 < 3 ∧ w 13 = 0 ∧ mWd st w = 0 ∧ w 15 = 0 then 1 else 0) else
  if w 0 = 1 then (if 5 * w 1 < 2 * st 0 then 1 else 2) else
  if w 0 = 2 then (if w 1 < st 0 then (if st 2 ≤ w 4 then 2 else if st 0 ≤ 5 * w 1 then 2 else 4) else 3) else
  if w 0 = 3 then (if w 2 = 0 ∧ ¬ st 0 - 5 ≤ w 1 then 2 else 3) else
  if w 0 = 4 then (if w 1 = 0 ∧ w 2 = 90 then 0 else 4) else w 0
theorem r_ialdv {C : hC} {pc : Nat} {L : List (Option hV)} {r : List hV} {S : hS} {o : Option Int32 × hS} {p0 nx a b d q : Nat} {v i x : Int32} {k c j : Nat} (hx : S.2.1 c j = x) (hf : hFetch C pc = some (p0, .iaload, nx, a, b, d, q, v)) (hi : i.toInt = (j : Int)) (hj : (10000 ≤ k ∧ k < 20000) ∧ j < k % 10000) (kk : Rn C nx L (.inl x :: r) S o) : Rn C pc L (.inl i :: .inr (some (k, c)) :: r) S o := r_iald hf j hi hj (by rw [hx]; exact kk)
theorem mIn_v : mIn 0 1 4 = 0 ∧ mIn 1 1 4 = 1 ∧ mIn 2 1 4 = 1 ∧ mIn 3 1 4 = 1 ∧ mIn 4 1 4 = 1 ∧ mIn 5 1 4 = 0 ∧ mIn 0 1 3 = 0 ∧ mIn 1 1 3 = 1 ∧ mIn 2 1 3 = 1 ∧ mIn 3 1 3 = 1 ∧ mIn 4 1 3 = 0 ∧ mIn 5 1 3 = 0 := by decide
theorem e_inV {v lo hi x : Int32} (h : mIn v lo hi = x) (S : hS) : Ev 10 [.inl v, .inl lo, .inl hi] S (some x, S) := by rw [← h]; exact e_in v lo hi S
set_option maxHeartbeats 4000000 in
set_option maxRecDepth 100000 in
theorem e_modeOf (r : Nat) (S : hS) (hs : S.2.2 57 6 = some (10006, 63)) (hm : isMode (S.2.1 r 0)) : Ev 102 [.inr (some (10, 57)), .inr (some (10059, r))] S (some (mMode (S.2.1 63) (S.2.1 r)), S) := by
  show Rn hc_X10_modeOf 0 [some (.inr (some (10, 57))), some (.inr (some (10059, r))), none] [] S _
  obtain ⟨i0, i1, i2, i3, i4, i5, j0, j1, j2, j3, j4, j5⟩ := mIn_v
  rcases hm with hm | hm | hm | hm | hm | hm
  · repeat' (first | refine r_getr rfl hs ?_ | refine r_ialdv hm rfl rfl ⟨⟨by decide, by decide⟩, by decide⟩ ?_ | refine r_iald rfl 0 rfl ⟨⟨by decide, by decide⟩, by decide⟩ ?_ | refine r_iald rfl 1 rfl ⟨⟨by decide, by decide⟩, by decide⟩ ?_ | refine r_iald rfl 2 rfl ⟨⟨by decide, by decide⟩, by decide⟩ ?_ | refine r_iald rfl 4 rfl ⟨⟨by decide, by decide⟩, by decide⟩ ?_ | refine r_iald rfl 10 rfl ⟨⟨by decide, by decide⟩, by decide⟩ ?_ | refine r_iald rfl 11 rfl ⟨⟨by decide, by decide⟩, by decide⟩ ?_ | refine r_iald rfl 12 rfl ⟨⟨by decide, by decide⟩, by decide⟩ ?_ | refine r_iald rfl 13 rfl ⟨⟨by decide, by decide⟩, by decide⟩ ?_ | refine r_iald rfl 15 rfl ⟨⟨by decide, by decide⟩, by decide⟩ ?_ | refine r_step rfl rfl ?_ | refine r_call rfl rfl (e_mWound _ _ hs) ?_ | refine r_call rfl rfl (e_inV i0 _) ?_ | refine r_call rfl rfl (e_inV j0 _) ?_ | refine r_tsw 104 rfl rfl ?_ | with_reducible refine r_i_eq (fun c => ?_) (fun c => ?_) | with_reducible refine r_i_ne (fun c => ?_) (fun c => ?_) | with_reducible refine r_i_lt (fun c => ?_) (fun c => ?_) | with_reducible refine r_i_ge (fun c => ?_) (fun c => ?_) | with_reducible refine r_i_gt (fun c => ?_) (fun c => ?_) | with_reducible refine r_i_le (fun c => ?_) (fun c => ?_))
    all_goals refine r_reti rfl ?_ rfl
    all_goals simp only [mMode, hm, md_01, md_02, md_03, md_04, md_05, md_10, md_12, md_13, md_14, md_15, md_20, md_21, md_23, md_24, md_25, md_30, md_31, md_32, md_34, md_35, md_40, md_41, md_42, md_43, md_45, md_50, md_51, md_52, md_53, md_54, *, true_or, or_true, false_or, or_false, true_and, and_true, false_and, and_false, not_true, not_false_eq_true, if_true, if_false, ne_eq, not_true_eq_false]
  · repeat' (first | refine r_getr rfl hs ?_ | refine r_ialdv hm rfl rfl ⟨⟨by decide, by decide⟩, by decide⟩ ?_ | refine r_iald rfl 0 rfl ⟨⟨by decide, by decide⟩, by decide⟩ ?_ | refine r_iald rfl 1 rfl ⟨⟨by decide, by decide⟩, by decide⟩ ?_ | refine r_iald rfl 2 rfl ⟨⟨by decide, by decide⟩, by decide⟩ ?_ | refine r_iald rfl 4 rfl ⟨⟨by decide, by decide⟩, by decide⟩ ?_ | refine r_iald rfl 10 rfl ⟨⟨by decide, by decide⟩, by decide⟩ ?_ | refine r_iald rfl 11 rfl ⟨⟨by decide, by decide⟩, by decide⟩ ?_ | refine r_iald rfl 12 rfl ⟨⟨by decide, by decide⟩, by decide⟩ ?_ | refine r_iald rfl 13 rfl ⟨⟨by decide, by decide⟩, by decide⟩ ?_ | refine r_iald rfl 15 rfl ⟨⟨by decide, by decide⟩, by decide⟩ ?_ | refine r_step rfl rfl ?_ | refine r_call rfl rfl (e_mWound _ _ hs) ?_ | refine r_call rfl rfl (e_inV i1 _) ?_ | refine r_call rfl rfl (e_inV j1 _) ?_ | refine r_tsw 148 rfl rfl ?_ | with_reducible refine r_i_eq (fun c => ?_) (fun c => ?_) | with_reducible refine r_i_ne (fun c => ?_) (fun c => ?_) | with_reducible refine r_i_lt (fun c => ?_) (fun c => ?_) | with_reducible refine r_i_ge (fun c => ?_) (fun c => ?_) | with_reducible refine r_i_gt (fun c => ?_) (fun c => ?_) | with_reducible refine r_i_le (fun c => ?_) (fun c => ?_))
    all_goals refine r_reti rfl ?_ rfl
    all_goals simp only [mMode, hm, md_01, md_02, md_03, md_04, md_05, md_10, md_12, md_13, md_14, md_15, md_20, md_21, md_23, md_24, md_25, md_30, md_31, md_32, md_34, md_35, md_40, md_41, md_42, md_43, md_45, md_50, md_51, md_52, md_53, md_54, *, true_or, or_true, false_or, or_false, true_and, and_true, false_and, and_false, not_true, not_false_eq_true, if_true, if_false, ne_eq, not_true_eq_false]
  · repeat' (first | refine r_getr rfl hs ?_ | refine r_ialdv hm rfl rfl ⟨⟨by decide, by decide⟩, by decide⟩ ?_ | refine r_iald rfl 0 rfl ⟨⟨by decide, by decide⟩, by decide⟩ ?_ | refine r_iald rfl 1 rfl ⟨⟨by decide, by decide⟩, by decide⟩ ?_ | refine r_iald rfl 2 rfl ⟨⟨by decide, by decide⟩, by decide⟩ ?_ | refine r_iald rfl 4 rfl ⟨⟨by decide, by decide⟩, by decide⟩ ?_ | refine r_iald rfl 10 rfl ⟨⟨by decide, by decide⟩, by decide⟩ ?_ | refine r_iald rfl 11 rfl ⟨⟨by decide, by decide⟩, by decide⟩ ?_ | refine r_iald rfl 12 rfl ⟨⟨by decide, by decide⟩, by decide⟩ ?_ | refine r_iald rfl 13 rfl ⟨⟨by decide, by decide⟩, by decide⟩ ?_ | refine r_iald rfl 15 rfl ⟨⟨by decide, by decide⟩, by decide⟩ ?_ | refine r_step rfl rfl ?_ | refine r_call rfl rfl (e_mWound _ _ hs) ?_ | refine r_call rfl rfl (e_inV i2 _) ?_ | refine r_call rfl rfl (e_inV j2 _) ?_ | refine r_tsw 170 rfl rfl ?_ | with_reducible refine r_i_eq (fun c => ?_) (fun c => ?_) | with_reducible refine r_i_ne (fun c => ?_) (fun c => ?_) | with_reducible refine r_i_lt (fun c => ?_) (fun c => ?_) | with_reducible refine r_i_ge (fun c => ?_) (fun c => ?_) | with_reducible refine r_i_gt (fun c => ?_) (fun c => ?_) | with_reducible refine r_i_le (fun c => ?_) (fun c => ?_))
    all_goals refine r_reti rfl ?_ rfl
    all_goals simp only [mMode, hm, md_01, md_02, md_03, md_04, md_05, md_10, md_12, md_13, md_14, md_15, md_20, md_21, md_23, md_24, md_25, md_30, md_31, md_32, md_34, md_35, md_40, md_41, md_42, md_43, md_45, md_50, md_51, md_52, md_53, md_54, *, true_or, or_true, false_or, or_false, true_and, and_true, false_and, and_false, not_true, not_false_eq_true, if_true, if_false, ne_eq, not_true_eq_false]
  · repeat' (first | refine r_getr rfl hs ?_ | refine r_ialdv hm rfl rfl ⟨⟨by decide, by decide⟩, by decide⟩ ?_ | refine r_iald rfl 0 rfl ⟨⟨by decide, by decide⟩, by decide⟩ ?_ | refine r_iald rfl 1 rfl ⟨⟨by decide, by decide⟩, by decide⟩ ?_ | refine r_iald rfl 2 rfl ⟨⟨by decide, by decide⟩, by decide⟩ ?_ | refine r_iald rfl 4 rfl ⟨⟨by decide, by decide⟩, by decide⟩ ?_ | refine r_iald rfl 10 rfl ⟨⟨by decide, by decide⟩, by decide⟩ ?_ | refine r_iald rfl 11 rfl ⟨⟨by decide, by decide⟩, by decide⟩ ?_ | refine r_iald rfl 12 rfl ⟨⟨by decide, by decide⟩, by decide⟩ ?_ | refine r_iald rfl 13 rfl ⟨⟨by decide, by decide⟩, by decide⟩ ?_ | refine r_iald rfl 15 rfl ⟨⟨by decide, by decide⟩, by decide⟩ ?_ | refine r_step rfl rfl ?_ | refine r_call rfl rfl (e_mWound _ _ hs) ?_ | refine r_call rfl rfl (e_inV i3 _) ?_ | refine r_call rfl rfl (e_inV j3 _) ?_ | refine r_tsw 218 rfl rfl ?_ | with_reducible refine r_i_eq (fun c => ?_) (fun c => ?_) | with_reducible refine r_i_ne (fun c => ?_) (fun c => ?_) | with_reducible refine r_i_lt (fun c => ?_) (fun c => ?_) | with_reducible refine r_i_ge (fun c => ?_) (fun c => ?_) | with_reducible refine r_i_gt (fun c => ?_) (fun c => ?_) | with_reducible refine r_i_le (fun c => ?_) (fun c => ?_))
    all_goals refine r_reti rfl ?_ rfl
    all_goals simp only [mMode, hm, md_01, md_02, md_03, md_04, md_05, md_10, md_12, md_13, md_14, md_15, md_20, md_21, md_23, md_24, md_25, md_30, md_31, md_32, md_34, md_35, md_40, md_41, md_42, md_43, md_45, md_50, md_51, md_52, md_53, md_54, *, true_or, or_true, false_or, or_false, true_and, and_true, false_and, and_false, not_true, not_false_eq_true, if_true, if_false, ne_eq, not_true_eq_false]
  · repeat' (first | refine r_getr rfl hs ?_ | refine r_ialdv hm rfl rfl ⟨⟨by decide, by decide⟩, by decide⟩ ?_ | refine r_iald rfl 0 rfl ⟨⟨by decide, by decide⟩, by decide⟩ ?_ | refine r_iald rfl 1 rfl ⟨⟨by decide, by decide⟩, by decide⟩ ?_ | refine r_iald rfl 2 rfl ⟨⟨by decide, by decide⟩, by decide⟩ ?_ | refine r_iald rfl 4 rfl ⟨⟨by decide, by decide⟩, by decide⟩ ?_ | refine r_iald rfl 10 rfl ⟨⟨by decide, by decide⟩, by decide⟩ ?_ | refine r_iald rfl 11 rfl ⟨⟨by decide, by decide⟩, by decide⟩ ?_ | refine r_iald rfl 12 rfl ⟨⟨by decide, by decide⟩, by decide⟩ ?_ | refine r_iald rfl 13 rfl ⟨⟨by decide, by decide⟩, by decide⟩ ?_ | refine r_iald rfl 15 rfl ⟨⟨by decide, by decide⟩, by decide⟩ ?_ | refine r_step rfl rfl ?_ | refine r_call rfl rfl (e_mWound _ _ hs) ?_ | refine r_call rfl rfl (e_inV i4 _) ?_ | refine r_call rfl rfl (e_inV j4 _) ?_ | refine r_tsw 244 rfl rfl ?_ | with_reducible refine r_i_eq (fun c => ?_) (fun c => ?_) | with_reducible refine r_i_ne (fun c => ?_) (fun c => ?_) | with_reducible refine r_i_lt (fun c => ?_) (fun c => ?_) | with_reducible refine r_i_ge (fun c => ?_) (fun c => ?_) | with_reducible refine r_i_gt (fun c => ?_) (fun c => ?_) | with_reducible refine r_i_le (fun c => ?_) (fun c => ?_))
    all_goals refine r_reti rfl ?_ rfl
    all_goals simp_all only [mMode, hm, md_01, md_02, md_03, md_04, md_05, md_10, md_12, md_13, md_14, md_15, md_20, md_21, md_23, md_24, md_25, md_30, md_31, md_32, md_34, md_35, md_40, md_41, md_42, md_43, md_45, md_50, md_51, md_52, md_53, md_54, true_or, or_true, false_or, or_false, true_and, and_true, false_and, and_false, not_true, not_false_eq_true, if_true, if_false, ne_eq, not_true_eq_false]
  · repeat' (first | refine r_getr rfl hs ?_ | refine r_ialdv hm rfl rfl ⟨⟨by decide, by decide⟩, by decide⟩ ?_ | refine r_iald rfl 0 rfl ⟨⟨by decide, by decide⟩, by decide⟩ ?_ | refine r_iald rfl 1 rfl ⟨⟨by decide, by decide⟩, by decide⟩ ?_ | refine r_iald rfl 2 rfl ⟨⟨by decide, by decide⟩, by decide⟩ ?_ | refine r_iald rfl 4 rfl ⟨⟨by decide, by decide⟩, by decide⟩ ?_ | refine r_iald rfl 10 rfl ⟨⟨by decide, by decide⟩, by decide⟩ ?_ | refine r_iald rfl 11 rfl ⟨⟨by decide, by decide⟩, by decide⟩ ?_ | refine r_iald rfl 12 rfl ⟨⟨by decide, by decide⟩, by decide⟩ ?_ | refine r_iald rfl 13 rfl ⟨⟨by decide, by decide⟩, by decide⟩ ?_ | refine r_iald rfl 15 rfl ⟨⟨by decide, by decide⟩, by decide⟩ ?_ | refine r_step rfl rfl ?_ | refine r_call rfl rfl (e_mWound _ _ hs) ?_ | refine r_call rfl rfl (e_inV i5 _) ?_ | refine r_call rfl rfl (e_inV j5 _) ?_ | refine r_tsw 264 rfl rfl ?_ | with_reducible refine r_i_eq (fun c => ?_) (fun c => ?_) | with_reducible refine r_i_ne (fun c => ?_) (fun c => ?_) | with_reducible refine r_i_lt (fun c => ?_) (fun c => ?_) | with_reducible refine r_i_ge (fun c => ?_) (fun c => ?_) | with_reducible refine r_i_gt (fun c => ?_) (fun c => ?_) | with_reducible refine r_i_le (fun c => ?_) (fun c => ?_))
    all_goals refine r_reti rfl ?_ rfl
    all_goals simp only [mMode, hm, md_01, md_02, md_03, md_04, md_05, md_10, md_12, md_13, md_14, md_15, md_20, md_21, md_23, md_24, md_25, md_30, md_31, md_32, md_34, md_35, md_40, md_41, md_42, md_43, md_45, md_50, md_51, md_52, md_53, md_54, *, true_or, or_true, false_or, or_false, true_and, and_true, false_and, and_false, not_true, not_false_eq_true, if_true, if_false, ne_eq, not_true_eq_false]
end
section
theorem e_towards (f t b : Int32) (S : hS) : Ev 20 [.inl f, .inl t, .inl b] S (some (mTow f t b), S) := by
  show Rn hc_X10_towards 0 [some (.inl f), some (.inl t), some (.inl b)] [] S _
  repeat' (first | refine r_step rfl rfl ?_ | with_reducible refine r_i_eq (fun c => ?_) (fun c => ?_) | with_reducible refine r_i_ne (fun c => ?_) (fun c => ?_) | with_reducible refine r_i_lt (fun c => ?_) (fun c => ?_) | with_reducible refine r_i_ge (fun c => ?_) (fun c => ?_) | with_reducible refine r_i_gt (fun c => ?_) (fun c => ?_) | with_reducible refine r_i_le (fun c => ?_) (fun c => ?_))
  all_goals refine r_reti rfl ?_ rfl
  all_goals simp only [mTow, *, if_true, if_false]
def mPG (st w : Nat → Int32) : Int32 := if w 0 = 3 then (if 0 ≤ w 2 + (w 1 - st 0) / 4 then (if w 2 + (w 1 - st 0) / 4 ≤ 90 then w 2 + (w 1 - st 0) / 4 else 90) else 0) else if w 0 = 1 then 20 else if w 0 = 2 then 0 else 90
set_option maxHeartbeats 4000000 in
set_option maxRecDepth 100000 in
theorem e_pitchGoal (r : Nat) (S : hS) (hs : S.2.2 57 6 = some (10006, 63)) : Ev 16 [.inr (some (10, 57)), .inr (some (10059, r))] S (some (mPG (S.2.1 63) (S.2.1 r)), S) := by
  show Rn hc_X10_pitchGoal 0 [some (.inr (some (10, 57))), some (.inr (some (10059, r))), none, none] [] S _
  repeat' (first | refine r_getr rfl hs ?_ | refine r_iald rfl 0 rfl ⟨⟨by decide, by decide⟩, by decide⟩ ?_ | refine r_iald rfl 1 rfl ⟨⟨by decide, by decide⟩, by decide⟩ ?_ | refine r_iald rfl 2 rfl ⟨⟨by decide, by decide⟩, by decide⟩ ?_ | refine r_step rfl rfl ?_ | refine r_div rfl (by decide) ?_ | with_reducible refine r_i_eq (fun c => ?_) (fun c => ?_) | with_reducible refine r_i_ne (fun c => ?_) (fun c => ?_) | with_reducible refine r_i_lt (fun c => ?_) (fun c => ?_) | with_reducible refine r_i_ge (fun c => ?_) (fun c => ?_) | with_reducible refine r_i_gt (fun c => ?_) (fun c => ?_) | with_reducible refine r_i_le (fun c => ?_) (fun c => ?_))
  all_goals refine r_reti rfl ?_ rfl
  all_goals simp only [mPG, *, if_true, if_false, md_01, md_02, md_03, md_04, md_05, md_10, md_12, md_13, md_14, md_15, md_20, md_21, md_23, md_24, md_25, md_30, md_31, md_32, md_34, md_35, md_40, md_41, md_42, md_43, md_45, md_50, md_51, md_52, md_53, md_54]
def mH1 (st w : Nat → Int32) : Nat → Int32 := upd w 2 (mTow (w 2) (mPG st w) (if w 0 = 5 then 2 * st 5 else st 5))
def mGoal (st w : Nat → Int32) : Int32 := if w 0 = 2 then w 1 / 2 else if w 0 = 3 then st 0 / 2 else 0
def mH2 (st w : Nat → Int32) : Nat → Int32 := upd w 3 (if w 9 = 0 then 0 else mTow (w 3) (mGoal st w) 10)
def mDrag (w : Nat → Int32) : Int32 := if w 1 = 0 then 0 else w 1 / 10 + 1
def mFl (x : Int32) : Int32 := if x < 0 then -((7 - x) / 8) else x / 8
def mH3 (w : Nat → Int32) : Nat → Int32 := upd w 1 (w 1 + mFl (mDrive w - w 3 - mDrag w))
def mH4 (w : Nat → Int32) : Nat → Int32 := upd w 1 (if 0 ≤ w 1 then w 1 else 0)
def mHolds (st w : Nat → Int32) : Nat → Int32 := mH4 (mH3 (mH2 st (mH1 st w)))
section
variable (r : Nat) (S : hS)
set_option maxHeartbeats 4000000 in
set_option maxRecDepth 100000 in
theorem e_h156 (x2 x3 x4 : Int32) : Rn hc_X10_holds 156 [some (.inr (some (10, 57))), some (.inr (some (10059, r))), some (.inl x2), some (.inl x3), some (.inl x4)] [] S (none, hRow S r (mH4 (S.2.1 r))) := by
  repeat' (first | refine r_retn rfl ?_ | refine r_iald rfl 0 rfl ⟨⟨by decide, by decide⟩, by decide⟩ ?_ | refine r_iald rfl 1 rfl ⟨⟨by decide, by decide⟩, by decide⟩ ?_ | refine r_iald rfl 2 rfl ⟨⟨by decide, by decide⟩, by decide⟩ ?_ | refine r_iald rfl 3 rfl ⟨⟨by decide, by decide⟩, by decide⟩ ?_ | refine r_iald rfl 5 rfl ⟨⟨by decide, by decide⟩, by decide⟩ ?_ | refine r_iald rfl 9 rfl ⟨⟨by decide, by decide⟩, by decide⟩ ?_ | refine r_iast0 rfl 0 rfl ⟨⟨by decide, by decide⟩, by decide⟩ ?_ | refine r_iast0 rfl 1 rfl ⟨⟨by decide, by decide⟩, by decide⟩ ?_ | refine r_iast0 rfl 2 rfl ⟨⟨by decide, by decide⟩, by decide⟩ ?_ | refine r_iast0 rfl 3 rfl ⟨⟨by decide, by decide⟩, by decide⟩ ?_ | refine r_iast0 rfl 9 rfl ⟨⟨by decide, by decide⟩, by decide⟩ ?_ | refine r_step rfl rfl ?_ | with_reducible refine r_i_eq (fun c => ?_) (fun c => ?_) | with_reducible refine r_i_ne (fun c => ?_) (fun c => ?_) | with_reducible refine r_i_lt (fun c => ?_) (fun c => ?_) | with_reducible refine r_i_ge (fun c => ?_) (fun c => ?_) | with_reducible refine r_i_gt (fun c => ?_) (fun c => ?_) | with_reducible refine r_i_le (fun c => ?_) (fun c => ?_))
  all_goals simp only [mH4, *, if_true, if_false, hPut_eq]
set_option maxHeartbeats 4000000 in
set_option maxRecDepth 100000 in
theorem e_h96 (x2 : Int32) : Rn hc_X10_holds 96 [some (.inr (some (10, 57))), some (.inr (some (10059, r))), some (.inl x2), none, none] [] S (none, hRow S r (mH4 (mH3 (S.2.1 r)))) := by
  repeat' (first | refine r_eq ?_ (e_h156 _ _ _ _ _) | refine r_iald rfl 0 rfl ⟨⟨by decide, by decide⟩, by decide⟩ ?_ | refine r_iald rfl 1 rfl ⟨⟨by decide, by decide⟩, by decide⟩ ?_ | refine r_iald rfl 2 rfl ⟨⟨by decide, by decide⟩, by decide⟩ ?_ | refine r_iald rfl 3 rfl ⟨⟨by decide, by decide⟩, by decide⟩ ?_ | refine r_iald rfl 5 rfl ⟨⟨by decide, by decide⟩, by decide⟩ ?_ | refine r_iald rfl 9 rfl ⟨⟨by decide, by decide⟩, by decide⟩ ?_ | refine r_iast0 rfl 0 rfl ⟨⟨by decide, by decide⟩, by decide⟩ ?_ | refine r_iast0 rfl 1 rfl ⟨⟨by decide, by decide⟩, by decide⟩ ?_ | refine r_iast0 rfl 2 rfl ⟨⟨by decide, by decide⟩, by decide⟩ ?_ | refine r_iast0 rfl 3 rfl ⟨⟨by decide, by decide⟩, by decide⟩ ?_ | refine r_iast0 rfl 9 rfl ⟨⟨by decide, by decide⟩, by decide⟩ ?_ | refine r_step rfl rfl ?_ | refine r_call rfl rfl (e_driveOf _ _) ?_ | refine r_div rfl (by decide) ?_ | with_reducible refine r_i_eq (fun c => ?_) (fun c => ?_) | with_reducible refine r_i_ne (fun c => ?_) (fun c => ?_) | with_reducible refine r_i_lt (fun c => ?_) (fun c => ?_) | with_reducible refine r_i_ge (fun c => ?_) (fun c => ?_) | with_reducible refine r_i_gt (fun c => ?_) (fun c => ?_) | with_reducible refine r_i_le (fun c => ?_) (fun c => ?_))
  all_goals simp only [mH3, mFl, mDrag, *, if_true, if_false, hPut_at, hPut_eq, hRow_at, hRow_row]
set_option maxHeartbeats 4000000 in
set_option maxRecDepth 100000 in
theorem e_h73 (g : Int32) (hg : g = mGoal (S.2.1 63) (S.2.1 r)) : Rn hc_X10_holds 73 [some (.inr (some (10, 57))), some (.inr (some (10059, r))), some (.inl g), none, none] [] S (none, hRow S r (mH4 (mH3 (mH2 (S.2.1 63) (S.2.1 r))))) := by
  subst hg
  repeat' (first | refine r_eq ?_ (e_h96 _ _ _) | refine r_iald rfl 0 rfl ⟨⟨by decide, by decide⟩, by decide⟩ ?_ | refine r_iald rfl 1 rfl ⟨⟨by decide, by decide⟩, by decide⟩ ?_ | refine r_iald rfl 2 rfl ⟨⟨by decide, by decide⟩, by decide⟩ ?_ | refine r_iald rfl 3 rfl ⟨⟨by decide, by decide⟩, by decide⟩ ?_ | refine r_iald rfl 5 rfl ⟨⟨by decide, by decide⟩, by decide⟩ ?_ | refine r_iald rfl 9 rfl ⟨⟨by decide, by decide⟩, by decide⟩ ?_ | refine r_iast0 rfl 0 rfl ⟨⟨by decide, by decide⟩, by decide⟩ ?_ | refine r_iast0 rfl 1 rfl ⟨⟨by decide, by decide⟩, by decide⟩ ?_ | refine r_iast0 rfl 2 rfl ⟨⟨by decide, by decide⟩, by decide⟩ ?_ | refine r_iast0 rfl 3 rfl ⟨⟨by decide, by decide⟩, by decide⟩ ?_ | refine r_iast0 rfl 9 rfl ⟨⟨by decide, by decide⟩, by decide⟩ ?_ | refine r_step rfl rfl ?_ | refine r_call rfl rfl (e_towards _ _ _ _) ?_ | with_reducible refine r_i_eq (fun c => ?_) (fun c => ?_) | with_reducible refine r_i_ne (fun c => ?_) (fun c => ?_) | with_reducible refine r_i_lt (fun c => ?_) (fun c => ?_) | with_reducible refine r_i_ge (fun c => ?_) (fun c => ?_) | with_reducible refine r_i_gt (fun c => ?_) (fun c => ?_) | with_reducible refine r_i_le (fun c => ?_) (fun c => ?_))
  all_goals simp only [mH2, *, if_true, if_false, hPut_at, hPut_eq, hRow_at, hRow_row]
set_option maxHeartbeats 4000000 in
set_option maxRecDepth 100000 in
theorem e_h38 (hs : S.2.2 57 6 = some (10006, 63)) : Rn hc_X10_holds 38 [some (.inr (some (10, 57))), some (.inr (some (10059, r))), none, none, none] [] S (none, hRow S r (mH4 (mH3 (mH2 (S.2.1 63) (S.2.1 r))))) := by
  repeat' (first | refine r_getr rfl hs ?_ | refine e_h73 _ _ _ ?_ | refine r_iald rfl 0 rfl ⟨⟨by decide, by decide⟩, by decide⟩ ?_ | refine r_iald rfl 1 rfl ⟨⟨by decide, by decide⟩, by decide⟩ ?_ | refine r_iald rfl 2 rfl ⟨⟨by decide, by decide⟩, by decide⟩ ?_ | refine r_iald rfl 3 rfl ⟨⟨by decide, by decide⟩, by decide⟩ ?_ | refine r_iald rfl 5 rfl ⟨⟨by decide, by decide⟩, by decide⟩ ?_ | refine r_iald rfl 9 rfl ⟨⟨by decide, by decide⟩, by decide⟩ ?_ | refine r_iast0 rfl 0 rfl ⟨⟨by decide, by decide⟩, by decide⟩ ?_ | refine r_iast0 rfl 1 rfl ⟨⟨by decide, by decide⟩, by decide⟩ ?_ | refine r_iast0 rfl 2 rfl ⟨⟨by decide, by decide⟩, by decide⟩ ?_ | refine r_iast0 rfl 3 rfl ⟨⟨by decide, by decide⟩, by decide⟩ ?_ | refine r_iast0 rfl 9 rfl ⟨⟨by decide, by decide⟩, by decide⟩ ?_ | refine r_step rfl rfl ?_ | refine r_div rfl (by decide) ?_ | with_reducible refine r_i_eq (fun c => ?_) (fun c => ?_) | with_reducible refine r_i_ne (fun c => ?_) (fun c => ?_) | with_reducible refine r_i_lt (fun c => ?_) (fun c => ?_) | with_reducible refine r_i_ge (fun c => ?_) (fun c => ?_) | with_reducible refine r_i_gt (fun c => ?_) (fun c => ?_) | with_reducible refine r_i_le (fun c => ?_) (fun c => ?_))
  all_goals simp only [mGoal, *, if_true, if_false, md_32]
set_option maxHeartbeats 4000000 in
set_option maxRecDepth 100000 in
theorem e_holds (hs : S.2.2 57 6 = some (10006, 63)) (hne : 63 ≠ r) : Ev 116 [.inr (some (10, 57)), .inr (some (10059, r))] S (none, hRow S r (mHolds (S.2.1 63) (S.2.1 r))) := by
  show Rn hc_X10_holds 0 [some (.inr (some (10, 57))), some (.inr (some (10059, r))), none, none, none] [] S _
  repeat' (first | refine r_getr rfl hs ?_ | refine r_eq ?_ (e_h38 _ _ hs) | refine r_iald rfl 0 rfl ⟨⟨by decide, by decide⟩, by decide⟩ ?_ | refine r_iald rfl 1 rfl ⟨⟨by decide, by decide⟩, by decide⟩ ?_ | refine r_iald rfl 2 rfl ⟨⟨by decide, by decide⟩, by decide⟩ ?_ | refine r_iald rfl 3 rfl ⟨⟨by decide, by decide⟩, by decide⟩ ?_ | refine r_iald rfl 5 rfl ⟨⟨by decide, by decide⟩, by decide⟩ ?_ | refine r_iald rfl 9 rfl ⟨⟨by decide, by decide⟩, by decide⟩ ?_ | refine r_iast0 rfl 0 rfl ⟨⟨by decide, by decide⟩, by decide⟩ ?_ | refine r_iast0 rfl 1 rfl ⟨⟨by decide, by decide⟩, by decide⟩ ?_ | refine r_iast0 rfl 2 rfl ⟨⟨by decide, by decide⟩, by decide⟩ ?_ | refine r_iast0 rfl 3 rfl ⟨⟨by decide, by decide⟩, by decide⟩ ?_ | refine r_iast0 rfl 9 rfl ⟨⟨by decide, by decide⟩, by decide⟩ ?_ | refine r_step rfl rfl ?_ | refine r_call rfl rfl (e_pitchGoal _ _ hs) ?_ | refine r_call rfl rfl (e_towards _ _ _ _) ?_ | with_reducible refine r_i_eq (fun c => ?_) (fun c => ?_) | with_reducible refine r_i_ne (fun c => ?_) (fun c => ?_) | with_reducible refine r_i_lt (fun c => ?_) (fun c => ?_) | with_reducible refine r_i_ge (fun c => ?_) (fun c => ?_) | with_reducible refine r_i_gt (fun c => ?_) (fun c => ?_) | with_reducible refine r_i_le (fun c => ?_) (fun c => ?_))
  all_goals simp only [mHolds, mH1, *, if_true, if_false, hPut_at, hPut_eq, hRow_at, hRow_row, hRow_ne _ _ hne, hPut_ne hne]
set_option maxHeartbeats 4000000 in
set_option maxRecDepth 100000 in
theorem e_turns (d : Int32) : Ev 22 [.inr (some (10, 57)), .inr (some (10059, r)), .inl d] S (none, hRow S r (wTurnBy (S.2.1 r) d)) := by
  show Rn hc_X10_turns 0 [some (.inr (some (10, 57))), some (.inr (some (10059, r))), some (.inl d)] [] S _
  repeat' (first | refine r_retn rfl ?_ | refine r_iald rfl 6 rfl ⟨⟨by decide, by decide⟩, by decide⟩ ?_ | refine r_iald rfl 7 rfl ⟨⟨by decide, by decide⟩, by decide⟩ ?_ | refine r_iast0 rfl 6 rfl ⟨⟨by decide, by decide⟩, by decide⟩ ?_ | refine r_iast0 rfl 7 rfl ⟨⟨by decide, by decide⟩, by decide⟩ ?_ | refine r_step rfl rfl ?_ | refine r_rem rfl (by decide) ?_ | with_reducible refine r_i_eq (fun c => ?_) (fun c => ?_) | with_reducible refine r_i_ne (fun c => ?_) (fun c => ?_) | with_reducible refine r_i_lt (fun c => ?_) (fun c => ?_) | with_reducible refine r_i_ge (fun c => ?_) (fun c => ?_) | with_reducible refine r_i_gt (fun c => ?_) (fun c => ?_) | with_reducible refine r_i_le (fun c => ?_) (fun c => ?_))
  all_goals simp only [hPut_at, hPut_eq, hRow_at, hRow_row]
  all_goals rfl
end
/-- turned, unwound -/
def mL1 (e : Int32) (w : Nat → Int32) : Nat → Int32 := upd w 14 (if e ≤ 2 then 0 else w 14 + 1)
def mBeg (st w : Nat → Int32) : Int32 := if w 0 = 0 then (if mWd st w = 0 then 0 else 1) else 0
def mEnds (w : Nat → Int32) : Int32 := if w 7 = 0 then 1 else if w 0 = 0 then 0 else 1
def mL2 (b e : Int32) (w : Nat → Int32) : Nat → Int32 := upd w 15 (if e = 0 then (if b = 0 then w 15 else 1) else 0)
def mBy (w : Nat → Int32) : Int32 := if 18 < (w 5 - w 6 + 36) - (w 5 - w 6 + 36) / 36 * 36 then -1 else 1
def mL3 (st w : Nat → Int32) : Nat → Int32 :=
  if w 15 = 1 then wTurnBy w (if w 7 ≤ 0 then 1 else -1) else
  if 3 < w 0 then w else if w 14 < 3 then w else if st 4 < mAway (w 7 + mBy w) 0 then w else wTurnBy w (mBy w)
section
variable (r : Nat) (S : hS)
set_option maxHeartbeats 4000000 in
set_option maxRecDepth 100000 in
theorem e_l84 (hs : S.2.2 57 6 = some (10006, 63)) (e x3 x4 : Int32) : Rn hc_X10_looksUp 84 [some (.inr (some (10, 57))), some (.inr (some (10059, r))), some (.inl e), some (.inl x3), some (.inl x4), none, none] [] S (none, hRow S r (mL3 (S.2.1 63) (S.2.1 r))) := by
  repeat' (first | refine r_getr rfl hs ?_ | refine r_retn rfl ?_ | refine r_iald rfl 0 rfl ⟨⟨by decide, by decide⟩, by decide⟩ ?_ | refine r_iald rfl 4 rfl ⟨⟨by decide, by decide⟩, by decide⟩ ?_ | refine r_iald rfl 5 rfl ⟨⟨by decide, by decide⟩, by decide⟩ ?_ | refine r_iald rfl 6 rfl ⟨⟨by decide, by decide⟩, by decide⟩ ?_ | refine r_iald rfl 7 rfl ⟨⟨by decide, by decide⟩, by decide⟩ ?_ | refine r_iald rfl 14 rfl ⟨⟨by decide, by decide⟩, by decide⟩ ?_ | refine r_iald rfl 15 rfl ⟨⟨by decide, by decide⟩, by decide⟩ ?_ | refine r_iast0 rfl 0 rfl ⟨⟨by decide, by decide⟩, by decide⟩ ?_ | refine r_iast0 rfl 5 rfl ⟨⟨by decide, by decide⟩, by decide⟩ ?_ | refine r_iast0 rfl 6 rfl ⟨⟨by decide, by decide⟩, by decide⟩ ?_ | refine r_iast0 rfl 7 rfl ⟨⟨by decide, by decide⟩, by decide⟩ ?_ | refine r_iast0 rfl 14 rfl ⟨⟨by decide, by decide⟩, by decide⟩ ?_ | refine r_iast0 rfl 15 rfl ⟨⟨by decide, by decide⟩, by decide⟩ ?_ | refine r_step rfl rfl ?_ | refine r_call rfl rfl (e_away _ _ _) ?_ | refine r_callv rfl rfl (e_turns _ _ _) ?_ | refine r_rem rfl (by decide) ?_ | with_reducible refine r_i_eq (fun c => ?_) (fun c => ?_) | with_reducible refine r_i_ne (fun c => ?_) (fun c => ?_) | with_reducible refine r_i_lt (fun c => ?_) (fun c => ?_) | with_reducible refine r_i_ge (fun c => ?_) (fun c => ?_) | with_reducible refine r_i_gt (fun c => ?_) (fun c => ?_) | with_reducible refine r_i_le (fun c => ?_) (fun c => ?_))
  all_goals simp only [mL3, mBy, *, if_true, if_false, hRow_self]
end
end
section
section
variable (r : Nat) (S : hS)
set_option maxHeartbeats 4000000 in
set_option maxRecDepth 100000 in
theorem e_l59 (hs : S.2.2 57 6 = some (10006, 63)) (e x3 x4 : Int32) : Rn hc_X10_looksUp 59 [some (.inr (some (10, 57))), some (.inr (some (10059, r))), some (.inl e), some (.inl x3), some (.inl x4), none, none] [] S (none, hRow S r (mL3 ((hRow S r (mL2 x3 x4 (S.2.1 r))).2.1 63) (mL2 x3 x4 (S.2.1 r)))) := by
  repeat' (first | refine r_eq ?_ (e_l84 r (hPut S r 15 _) hs e x3 x4) | refine r_iald rfl 0 rfl ⟨⟨by decide, by decide⟩, by decide⟩ ?_ | refine r_iald rfl 4 rfl ⟨⟨by decide, by decide⟩, by decide⟩ ?_ | refine r_iald rfl 5 rfl ⟨⟨by decide, by decide⟩, by decide⟩ ?_ | refine r_iald rfl 6 rfl ⟨⟨by decide, by decide⟩, by decide⟩ ?_ | refine r_iald rfl 7 rfl ⟨⟨by decide, by decide⟩, by decide⟩ ?_ | refine r_iald rfl 14 rfl ⟨⟨by decide, by decide⟩, by decide⟩ ?_ | refine r_iald rfl 15 rfl ⟨⟨by decide, by decide⟩, by decide⟩ ?_ | refine r_iast0 rfl 0 rfl ⟨⟨by decide, by decide⟩, by decide⟩ ?_ | refine r_iast0 rfl 5 rfl ⟨⟨by decide, by decide⟩, by decide⟩ ?_ | refine r_iast0 rfl 6 rfl ⟨⟨by decide, by decide⟩, by decide⟩ ?_ | refine r_iast0 rfl 7 rfl ⟨⟨by decide, by decide⟩, by decide⟩ ?_ | refine r_iast0 rfl 14 rfl ⟨⟨by decide, by decide⟩, by decide⟩ ?_ | refine r_iast0 rfl 15 rfl ⟨⟨by decide, by decide⟩, by decide⟩ ?_ | refine r_step rfl rfl ?_ | with_reducible refine r_i_eq (fun c => ?_) (fun c => ?_) | with_reducible refine r_i_ne (fun c => ?_) (fun c => ?_) | with_reducible refine r_i_lt (fun c => ?_) (fun c => ?_) | with_reducible refine r_i_ge (fun c => ?_) (fun c => ?_) | with_reducible refine r_i_gt (fun c => ?_) (fun c => ?_) | with_reducible refine r_i_le (fun c => ?_) (fun c => ?_))
  all_goals simp only [mL2, *, if_true, if_false, hPut_eq, hRow_at, hRow_row]
set_option maxHeartbeats 4000000 in
set_option maxRecDepth 100000 in
theorem e_l39 (hs : S.2.2 57 6 = some (10006, 63)) (hne : 63 ≠ r) (e x3 : Int32) : Rn hc_X10_looksUp 39 [some (.inr (some (10, 57))), some (.inr (some (10059, r))), some (.inl e), some (.inl x3), none, none, none] [] S (none, hRow S r (mL3 (S.2.1 63) (mL2 x3 (mEnds (S.2.1 r)) (S.2.1 r)))) := by
  repeat' (first | refine r_eq ?_ (e_l59 _ _ hs _ _ _) | refine r_iald rfl 0 rfl ⟨⟨by decide, by decide⟩, by decide⟩ ?_ | refine r_iald rfl 4 rfl ⟨⟨by decide, by decide⟩, by decide⟩ ?_ | refine r_iald rfl 5 rfl ⟨⟨by decide, by decide⟩, by decide⟩ ?_ | refine r_iald rfl 6 rfl ⟨⟨by decide, by decide⟩, by decide⟩ ?_ | refine r_iald rfl 7 rfl ⟨⟨by decide, by decide⟩, by decide⟩ ?_ | refine r_iald rfl 14 rfl ⟨⟨by decide, by decide⟩, by decide⟩ ?_ | refine r_iald rfl 15 rfl ⟨⟨by decide, by decide⟩, by decide⟩ ?_ | refine r_iast0 rfl 0 rfl ⟨⟨by decide, by decide⟩, by decide⟩ ?_ | refine r_iast0 rfl 5 rfl ⟨⟨by decide, by decide⟩, by decide⟩ ?_ | refine r_iast0 rfl 6 rfl ⟨⟨by decide, by decide⟩, by decide⟩ ?_ | refine r_iast0 rfl 7 rfl ⟨⟨by decide, by decide⟩, by decide⟩ ?_ | refine r_iast0 rfl 14 rfl ⟨⟨by decide, by decide⟩, by decide⟩ ?_ | refine r_iast0 rfl 15 rfl ⟨⟨by decide, by decide⟩, by decide⟩ ?_ | refine r_step rfl rfl ?_ | with_reducible refine r_i_eq (fun c => ?_) (fun c => ?_) | with_reducible refine r_i_ne (fun c => ?_) (fun c => ?_) | with_reducible refine r_i_lt (fun c => ?_) (fun c => ?_) | with_reducible refine r_i_ge (fun c => ?_) (fun c => ?_) | with_reducible refine r_i_gt (fun c => ?_) (fun c => ?_) | with_reducible refine r_i_le (fun c => ?_) (fun c => ?_))
  all_goals simp only [mEnds, *, if_true, if_false, hRow_ne _ _ hne]
set_option maxHeartbeats 4000000 in
set_option maxRecDepth 100000 in
theorem e_l19 (hs : S.2.2 57 6 = some (10006, 63)) (hne : 63 ≠ r) (e : Int32) : Rn hc_X10_looksUp 19 [some (.inr (some (10, 57))), some (.inr (some (10059, r))), some (.inl e), none, none, none, none] [] S (none, hRow S r (mL3 (S.2.1 63) (mL2 (mBeg (S.2.1 63) (S.2.1 r)) (mEnds (S.2.1 r)) (S.2.1 r)))) := by
  repeat' (first | refine r_eq ?_ (e_l39 _ _ hs hne _ _) | refine r_iald rfl 0 rfl ⟨⟨by decide, by decide⟩, by decide⟩ ?_ | refine r_iald rfl 4 rfl ⟨⟨by decide, by decide⟩, by decide⟩ ?_ | refine r_iald rfl 5 rfl ⟨⟨by decide, by decide⟩, by decide⟩ ?_ | refine r_iald rfl 6 rfl ⟨⟨by decide, by decide⟩, by decide⟩ ?_ | refine r_iald rfl 7 rfl ⟨⟨by decide, by decide⟩, by decide⟩ ?_ | refine r_iald rfl 14 rfl ⟨⟨by decide, by decide⟩, by decide⟩ ?_ | refine r_iald rfl 15 rfl ⟨⟨by decide, by decide⟩, by decide⟩ ?_ | refine r_iast0 rfl 0 rfl ⟨⟨by decide, by decide⟩, by decide⟩ ?_ | refine r_iast0 rfl 5 rfl ⟨⟨by decide, by decide⟩, by decide⟩ ?_ | refine r_iast0 rfl 6 rfl ⟨⟨by decide, by decide⟩, by decide⟩ ?_ | refine r_iast0 rfl 7 rfl ⟨⟨by decide, by decide⟩, by decide⟩ ?_ | refine r_iast0 rfl 14 rfl ⟨⟨by decide, by decide⟩, by decide⟩ ?_ | refine r_iast0 rfl 15 rfl ⟨⟨by decide, by decide⟩, by decide⟩ ?_ | refine r_step rfl rfl ?_ | refine r_call rfl rfl (e_mWound _ _ hs) ?_ | with_reducible refine r_i_eq (fun c => ?_) (fun c => ?_) | with_reducible refine r_i_ne (fun c => ?_) (fun c => ?_) | with_reducible refine r_i_lt (fun c => ?_) (fun c => ?_) | with_reducible refine r_i_ge (fun c => ?_) (fun c => ?_) | with_reducible refine r_i_gt (fun c => ?_) (fun c => ?_) | with_reducible refine r_i_le (fun c => ?_) (fun c => ?_))
  all_goals simp only [mBeg, *, if_true, if_false]
def mLooks (st w : Nat → Int32) (e : Int32) : Nat → Int32 := mL3 st (mL2 (mBeg st (mL1 e w)) (mEnds (mL1 e w)) (mL1 e w))
set_option maxHeartbeats 4000000 in
set_option maxRecDepth 100000 in
theorem e_looksUp (hs : S.2.2 57 6 = some (10006, 63)) (hne : 63 ≠ r) (e : Int32) : Ev 101 [.inr (some (10, 57)), .inr (some (10059, r)), .inl e] S (none, hRow S r (mLooks (S.2.1 63) (S.2.1 r) e)) := by
  show Rn hc_X10_looksUp 0 [some (.inr (some (10, 57))), some (.inr (some (10059, r))), some (.inl e), none, none, none, none] [] S _
  repeat' (first | refine r_eq ?_ (e_l19 r (hPut S r 14 _) hs hne e) | refine r_iald rfl 0 rfl ⟨⟨by decide, by decide⟩, by decide⟩ ?_ | refine r_iald rfl 4 rfl ⟨⟨by decide, by decide⟩, by decide⟩ ?_ | refine r_iald rfl 5 rfl ⟨⟨by decide, by decide⟩, by decide⟩ ?_ | refine r_iald rfl 6 rfl ⟨⟨by decide, by decide⟩, by decide⟩ ?_ | refine r_iald rfl 7 rfl ⟨⟨by decide, by decide⟩, by decide⟩ ?_ | refine r_iald rfl 14 rfl ⟨⟨by decide, by decide⟩, by decide⟩ ?_ | refine r_iald rfl 15 rfl ⟨⟨by decide, by decide⟩, by decide⟩ ?_ | refine r_iast0 rfl 0 rfl ⟨⟨by decide, by decide⟩, by decide⟩ ?_ | refine r_iast0 rfl 5 rfl ⟨⟨by decide, by decide⟩, by decide⟩ ?_ | refine r_iast0 rfl 6 rfl ⟨⟨by decide, by decide⟩, by decide⟩ ?_ | refine r_iast0 rfl 7 rfl ⟨⟨by decide, by decide⟩, by decide⟩ ?_ | refine r_iast0 rfl 14 rfl ⟨⟨by decide, by decide⟩, by decide⟩ ?_ | refine r_iast0 rfl 15 rfl ⟨⟨by decide, by decide⟩, by decide⟩ ?_ | refine r_step rfl rfl ?_ | with_reducible refine r_i_eq (fun c => ?_) (fun c => ?_) | with_reducible refine r_i_ne (fun c => ?_) (fun c => ?_) | with_reducible refine r_i_lt (fun c => ?_) (fun c => ?_) | with_reducible refine r_i_ge (fun c => ?_) (fun c => ?_) | with_reducible refine r_i_gt (fun c => ?_) (fun c => ?_) | with_reducible refine r_i_le (fun c => ?_) (fun c => ?_))
  all_goals simp only [mLooks, mL1, *, if_true, if_false, hPut_eq, hRow_at, hRow_row, hRow_ne _ _ hne, hPut_at, hPut_ne hne]
end
end
section
section
variable (r : Nat) (S : hS)
/-- the tick of the model -/
def mG1 (st w : Nat → Int32) : Nat → Int32 := upd (upd w 17 (w 17 + (if mMode st w = 5 then (if w 0 = 5 then 0 else 1) else 0))) 0 (mMode st w)
def mGoes (st w : Nat → Int32) : Nat → Int32 := mLooks st (mHolds st (mG1 st (mCounts st w))) (mErr (mG1 st (mCounts st w)))
set_option maxHeartbeats 4000000 in
set_option maxRecDepth 100000 in
theorem e_g39 (hs : S.2.2 57 6 = some (10006, 63)) (hne : 63 ≠ r) (m : Int32) : Rn hc_X10_goesOn 39 [some (.inr (some (10, 57))), some (.inr (some (10059, r))), some (.inl m), none] [] S (none, hRow S r (mLooks (S.2.1 63) (mHolds (S.2.1 63) (S.2.1 r)) (mErr (S.2.1 r)))) := by
  iterate 2 refine r_step rfl rfl ?_
  refine r_call rfl rfl (e_errorOf r S) ?_
  iterate 3 refine r_step rfl rfl ?_
  refine r_callv rfl rfl (e_holds r S hs hne) ?_
  iterate 3 refine r_step rfl rfl ?_
  refine r_callv rfl rfl (e_looksUp r (hRow S r (mHolds (S.2.1 63) (S.2.1 r))) hs hne _) ?_
  refine r_retn rfl ?_
  rw [hRow_at, hRow_row, hRow_ne _ _ hne]
set_option maxHeartbeats 4000000 in
set_option maxRecDepth 100000 in
theorem e_goesOn (hs : S.2.2 57 6 = some (10006, 63)) (hne : 63 ≠ r) (hm : isMode (S.2.1 r 0)) : Ev 131 [.inr (some (10, 57)), .inr (some (10059, r))] S (none, hRow S r (mGoes (S.2.1 63) (S.2.1 r))) := by
  show Rn hc_X10_goesOn 0 [some (.inr (some (10, 57))), some (.inr (some (10059, r))), none, none] [] S _
  have hm1 : isMode ((hRow S r (mCounts (S.2.1 63) (S.2.1 r))).2.1 r 0) := by rw [hRow_at]; exact hm
  iterate 2 refine r_step rfl rfl ?_
  refine r_callv rfl rfl (e_counts _ _ hs hne) ?_
  iterate 2 refine r_step rfl rfl ?_
  refine r_call rfl rfl (e_modeOf _ _ hs hm1) ?_
  repeat' (first | refine r_eq ?_ (e_g39 r (hPut (hPut (hRow S r _) r 17 _) r 0 _) hs hne _) | refine r_iald rfl 0 rfl ⟨⟨by decide, by decide⟩, by decide⟩ ?_ | refine r_iald rfl 17 rfl ⟨⟨by decide, by decide⟩, by decide⟩ ?_ | refine r_iast0 rfl 0 rfl ⟨⟨by decide, by decide⟩, by decide⟩ ?_ | refine r_iast0 rfl 17 rfl ⟨⟨by decide, by decide⟩, by decide⟩ ?_ | refine r_step rfl rfl ?_ | with_reducible refine r_i_eq (fun c => ?_) (fun c => ?_) | with_reducible refine r_i_ne (fun c => ?_) (fun c => ?_) | with_reducible refine r_i_lt (fun c => ?_) (fun c => ?_) | with_reducible refine r_i_ge (fun c => ?_) (fun c => ?_) | with_reducible refine r_i_gt (fun c => ?_) (fun c => ?_) | with_reducible refine r_i_le (fun c => ?_) (fun c => ?_))
  all_goals simp only [mGoes, mG1, hRow_at, hRow_row, hRow_ne _ _ hne, hPut_eq] at *
  all_goals simp only [*, if_true, if_false, hPut_at, hPut_ne hne]
end
end
section
/-! The class's tick and the model's are one. -/
theorem i_lt {a b : Int32} : a < b ↔ a.toInt < b.toInt := Int32.lt_iff_toInt_lt
theorem i_le {a b : Int32} : a ≤ b ↔ a.toInt ≤ b.toInt := Int32.le_iff_toInt_le
theorem i_eq {a b : Int32} : a = b ↔ a.toInt = b.toInt := Int32.toInt_inj.symm
theorem i_bm {x : Int} (g1 : -2147483648 ≤ x) (g2 : x < 2147483648) : x.bmod (2 ^ 32) = x := Int.bmod_eq_of_le (by omega) (by omega)
theorem i_add {a b : Int32} (g1 : -2147483648 ≤ a.toInt + b.toInt) (g2 : a.toInt + b.toInt < 2147483648) : (a + b).toInt = a.toInt + b.toInt := by rw [Int32.toInt_add, i_bm g1 g2]
theorem i_sub {a b : Int32} (g1 : -2147483648 ≤ a.toInt - b.toInt) (g2 : a.toInt - b.toInt < 2147483648) : (a - b).toInt = a.toInt - b.toInt := by rw [Int32.toInt_sub, i_bm g1 g2]
theorem i_mul {a b : Int32} (g1 : -2147483648 ≤ a.toInt * b.toInt) (g2 : a.toInt * b.toInt < 2147483648) : (a * b).toInt = a.toInt * b.toInt := by rw [Int32.toInt_mul, i_bm g1 g2]
theorem i_neg {a : Int32} (g : -2147483648 < a.toInt) : (-a).toInt = -a.toInt := by
  have := Int32.toInt_lt a
  rw [Int32.toInt_neg, i_bm (by omega) (by omega)]
theorem i_z : (0 : Int32).toInt = 0 := rfl
theorem i_one : (1 : Int32).toInt = 1 := rfl
theorem i_rng (a : Int32) : -2147483648 ≤ a.toInt ∧ a.toInt < 2147483648 := ⟨Int32.le_toInt a, Int32.toInt_lt a⟩
/-- a number between bounds -/
def bt (x : Int32) (lo hi : Int) : Prop := lo ≤ x.toInt ∧ x.toInt ≤ hi
theorem bt_nI {x : Int32} {hi : Nat} (h : bt x 0 hi) (hh : hi < 2147483648) : ∃ n, n ≤ hi ∧ x = nI n := by
  refine ⟨x.toInt.toNat, ?_, ?_⟩
  · have := h.2; omega
  · rw [i_eq, nI_toInt (by have := h.2; omega)]
    have := h.1
    omega
theorem mTow_eq {f t b : Int32} (hf : bt f (-1000000) 1000000) (ht : bt t (-1000000) 1000000) (hb : bt b 0 1000000) : mTow f t b = wNear f t b := by
  obtain ⟨f1, f2⟩ := hf
  obtain ⟨t1, t2⟩ := ht
  obtain ⟨b1, b2⟩ := hb
  have ea : (f + b).toInt = f.toInt + b.toInt := i_add (by omega) (by omega)
  have es : (f - b).toInt = f.toInt - b.toInt := i_sub (by omega) (by omega)
  unfold mTow wNear jmax jmin
  simp only [i_le, i_lt, ea, es]
  repeat' split
  all_goals first | rfl | (exfalso; omega) | (rw [i_eq]; omega)
theorem err_tab : ∀ a, a < 36 → ∀ b, b < 36 → (mErr (fun k => if k = 5 then nI a else nI b) = wError (fun k => if k = 5 then nI a else nI b) ∧ mBy (fun k => if k = 5 then nI a else nI b) = (if 18 < wAhead (fun k => if k = 5 then nI a else nI b) then -1 else 1)) ∧ (wError (fun k => if k = 5 then nI a else nI b)).toInt ≤ 18 ∧ 0 ≤ (wError (fun k => if k = 5 then nI a else nI b)).toInt := by decide +kernel
theorem err_eq {w : Nat → Int32} (h5 : bt (w 5) 0 35) (h6 : bt (w 6) 0 35) : mErr w = wError w ∧ mBy w = (if 18 < wAhead w then -1 else 1) ∧ bt (wError w) 0 18 := by
  obtain ⟨a, ha, ea⟩ := bt_nI (hi := 35) h5 (by decide)
  obtain ⟨b, hb, eb⟩ := bt_nI (hi := 35) h6 (by decide)
  obtain ⟨⟨k1, k2⟩, k3, k4⟩ := err_tab a (by omega) b (by omega)
  have e1 : mErr w = mErr (fun k => if k = 5 then w 5 else w 6) := rfl
  have e2 : wError w = wError (fun k => if k = 5 then w 5 else w 6) := rfl
  have e3 : mBy w = mBy (fun k => if k = 5 then w 5 else w 6) := rfl
  have e4 : wAhead w = wAhead (fun k => if k = 5 then w 5 else w 6) := rfl
  rw [e1, e2, e3, e4, ea, eb]
  exact ⟨k1, k2, k4, k3⟩
theorem jmax0 (x : Int32) : (if 0 ≤ x then x else 0) = jmax 0 x := by
  unfold jmax
  simp only [i_le, i_lt, i_z]
  repeat' split
  all_goals first | rfl | (exfalso; omega) | (rw [i_eq, i_z]; omega)
theorem mDrive_eq {w : Nat → Int32} (h5 : bt (w 5) 0 35) (h6 : bt (w 6) 0 35) : mDrive w = wDrive w (wError w) := by
  unfold mDrive wDrive
  rw [(err_eq h5 h6).1, jmax0]
theorem mWd_eq {st w : Nat → Int32} (hl : bt (st 4) 36 108) (ht : bt (w 7) (-1000) 1000) : mWd st w = wWd w (st 4) := by
  obtain ⟨l1, l2⟩ := hl
  obtain ⟨t1, t2⟩ := ht
  have e1 : (0 - w 7).toInt = -(w 7).toInt := by rw [i_sub (by rw [i_z]; omega) (by rw [i_z]; omega), i_z]; omega
  have e2 : (w 7 - 0).toInt = (w 7).toInt := by rw [i_sub (by rw [i_z]; omega) (by rw [i_z]; omega), i_z]; omega
  have e3 : (-(st 4)).toInt = -(st 4).toInt := i_neg (by omega)
  unfold mWd wWd mAway
  by_cases hz : w 7 ≤ 0
  · rw [if_pos hz]
    simp only [i_le, i_lt, i_z, e1, e3] at *
    repeat' split
    all_goals first | rfl | (exfalso; omega)
  · rw [if_neg hz]
    simp only [i_le, i_lt, i_z, e2, e3] at *
    repeat' split
    all_goals first | rfl | (exfalso; omega)
theorem mMode_eq {st w : Nat → Int32} (hw : mWd st w = wWd w (st 4)) (hb : isB (w 10)) : mMode st w = wMode st w := by
  have e : (w 10 = 1) = ¬ (w 10 = 0) := by
    rcases hb with h | h <;> rw [h] <;> simp
  unfold mMode wMode
  simp only [hw, e]
theorem mPG_eq {st w : Nat → Int32} : mPG st w = wPitchAim st w := by
  have key : ∀ x : Int32, (if 0 ≤ x then (if x ≤ 90 then x else 90) else 0) = jmax 0 (jmin 90 x) := by
    intro x
    have e90 : (90 : Int32).toInt = 90 := rfl
    have e9 : (if x < 90 then x else 90) = jmin 90 x := rfl
    rw [← e9]
    unfold jmax
    by_cases h : x < 90
    · rw [if_pos h]
      simp only [i_le, i_lt, i_z, e90] at h ⊢
      repeat' split
      all_goals first | rfl | (exfalso; omega) | (rw [i_eq, i_z]; omega)
    · rw [if_neg h]
      simp only [i_le, i_lt, i_z, e90] at h ⊢
      repeat' split
      all_goals first | rfl | (exfalso; omega) | (rw [i_eq, e90]; omega)
  unfold mPG wPitchAim
  rw [key]
  by_cases h1 : w 0 = 1
  · rw [if_neg (by rw [h1]; decide), if_pos h1, if_pos h1]
  · rw [if_neg h1, if_neg h1]
    by_cases h2 : w 0 = 2
    · rw [if_neg (by rw [h2]; decide), if_pos h2, if_pos h2]
    · rw [if_neg h2, if_neg h2]
theorem fl_tab : ∀ a, a < 2001 → mFl (nI a - 1000) = jfdiv (nI a - 1000) 8 := by decide +kernel
theorem mFl_eq {x : Int32} (h : bt x (-1000) 1000) : mFl x = jfdiv x 8 := by
  obtain ⟨h1, h2⟩ := h
  have e : x = nI (x.toInt + 1000).toNat - 1000 := by
    have e1 : (nI (x.toInt + 1000).toNat).toInt = x.toInt + 1000 := by rw [nI_toInt (by omega)]; omega
    have e2 : (1000 : Int32).toInt = 1000 := rfl
    rw [i_eq, i_sub (by rw [e1, e2]; omega) (by rw [e1, e2]; omega), e1, e2]
    omega
  rw [e]
  exact fl_tab _ (by omega)
theorem upd_self (w : Nat → Int32) (k : Nat) : upd w k (w k) = w := by
  funext j
  by_cases h : j = k
  · subst h; exact pk_us
  · exact pk_un h
theorem upd_upd (w : Nat → Int32) (k : Nat) (x y : Int32) : upd (upd w k x) k y = upd w k y := by
  funext j
  by_cases h : j = k
  · subst h; rw [pk_us, pk_us]
  · rw [pk_un h, pk_un h, pk_un h]
theorem upd_comm (w : Nat → Int32) {k m : Nat} (x y : Int32) (h : k ≠ m) : upd (upd w k x) m y = upd (upd w m y) k x := by
  funext j
  by_cases hm : j = m
  · subst hm; rw [pk_us, pk_un (fun e => h e.symm), pk_us]
  · by_cases hk : j = k
    · subst hk; rw [pk_un hm, pk_us, pk_us]
    · rw [pk_un hm, pk_un hk, pk_un hk, pk_un hm]
theorem mC1_eq {st w : Nat → Int32} (h3 : bt (st 3) 11 40) : mC1 st w = wS1 st w := by
  obtain ⟨a1, a2⟩ := h3
  have e1 : (st 3 - 1).toInt = (st 3).toInt - 1 := by rw [i_sub (by rw [i_one]; omega) (by rw [i_one]; omega), i_one]
  unfold mC1 wS1 mIn
  by_cases c1 : w 4 < st 2
  · simp only [c1, if_true]
  · simp only [c1, if_false]
    by_cases c2 : st 3 - 1 < w 4
    · have c3 : st 3 ≤ w 4 := by rw [i_lt, e1] at c2; rw [i_le]; omega
      simp only [c2, c3, if_true]
    · have c3 : ¬ st 3 ≤ w 4 := by rw [i_lt, e1] at c2; rw [i_le]; omega
      simp only [c2, c3, if_false]
      rw [if_neg (by decide)]
theorem away_lim {lim z : Int32} (hl : bt lim 36 108) (hz : bt z (-1001) 1001) : (lim < mAway z 0) = (lim < z ∨ z < -lim) := by
  obtain ⟨l1, l2⟩ := hl
  obtain ⟨z1, z2⟩ := hz
  have e1 : (0 - z).toInt = -z.toInt := by rw [i_sub (by rw [i_z]; omega) (by rw [i_z]; omega), i_z]; omega
  have e2 : (z - 0).toInt = z.toInt := by rw [i_sub (by rw [i_z]; omega) (by rw [i_z]; omega), i_z]; omega
  have e3 : (-lim).toInt = -lim.toInt := i_neg (by omega)
  apply propext
  unfold mAway
  by_cases h : z ≤ 0
  · rw [if_pos h]
    simp only [i_le, i_lt, i_z, e1, e3] at h ⊢
    omega
  · rw [if_neg h]
    simp only [i_le, i_lt, i_z, e2, e3] at h ⊢
    omega
theorem mL3_eq {st v : Nat → Int32} (hl : bt (st 4) 36 108) (ht : bt (v 7) (-1000) 1000) (h5 : bt (v 5) 0 35) (h6 : bt (v 6) 0 35) (hb : isB (v 15)) : mL3 st v = wT3 (st 4) v := by
  unfold mL3 wT3
  rw [(err_eq h5 h6).2.1]
  rcases hb with hb | hb
  · rw [hb, if_neg (by decide), if_pos rfl]
    have hz : ∀ d : Int32, (d = -1 ∨ d = 1) → bt (v 7 + d) (-1001) 1001 := by
      intro d hd
      obtain ⟨t1, t2⟩ := ht
      have e1 : (-1 : Int32).toInt = -1 := rfl
      rcases hd with rfl | rfl
      · unfold bt; rw [i_add (by rw [e1]; omega) (by rw [e1]; omega), e1]; omega
      · unfold bt; rw [i_add (by rw [i_one]; omega) (by rw [i_one]; omega), i_one]; omega
    have hd : (if 18 < wAhead v then (-1 : Int32) else 1) = -1 ∨ (if 18 < wAhead v then (-1 : Int32) else 1) = 1 := by
      split
      · exact Or.inl rfl
      · exact Or.inr rfl
    generalize (if 18 < wAhead v then (-1 : Int32) else 1) = d at hd ⊢
    have hk := away_lim hl (hz d hd)
    by_cases c1 : 3 < v 0
    · rw [if_pos c1, if_pos c1]
    · rw [if_neg c1, if_neg c1]
      by_cases c2 : v 14 < 3
      · rw [if_pos c2, if_pos c2]
      · rw [if_neg c2, if_neg c2]
        by_cases c3 : st 4 < v 7 + d
        · rw [if_pos c3, if_pos (by rw [hk]; exact Or.inl c3)]
        · rw [if_neg c3]
          by_cases c4 : v 7 + d < -(st 4)
          · rw [if_pos c4, if_pos (by rw [hk]; exact Or.inr c4)]
          · rw [if_neg c4, if_neg (by rw [hk]; exact fun h => h.elim c3 c4)]
  · rw [hb, if_pos rfl, if_neg (show ¬ ((1 : Int32) = 0) by decide)]
theorem mL2_eq {st w : Nat → Int32} (hw : mWd st w = wWd w (st 4)) : mL2 (mBeg st w) (mEnds w) w = wT2 (wT1 (st 4) w) := by
  have r7 : ∀ x, (upd w 15 x) 7 = w 7 := fun _ => rfl
  have r0 : ∀ x, (upd w 15 x) 0 = w 0 := fun _ => rfl
  have d10 : ¬ ((1 : Int32) = 0) := by decide
  unfold mL2 mBeg mEnds wT2 wT1
  rw [hw]
  by_cases a : w 7 = 0 <;> by_cases b : w 0 = 0 <;> by_cases c : wWd w (st 4) = 0 <;>
    simp only [a, b, c, r7, r0, d10, upd_upd, upd_self, if_true, if_false, true_or, or_true, or_false, false_or, true_and, and_true, false_and, and_false, not_true_eq_false, not_false_eq_true]
theorem wT2_15 {lim : Int32} {w : Nat → Int32} (hb : isB (w 15)) : isB (wT2 (wT1 lim w) 15) := by
  have h1 : isB (wT1 lim w 15) := by
    unfold wT1
    split
    · exact Or.inr pk_us
    · exact hb
  unfold wT2
  split
  · exact Or.inl pk_us
  · exact h1
theorem wT2_ne {lim : Int32} {w : Nat → Int32} {k : Nat} (h : k ≠ 15) : wT2 (wT1 lim w) k = w k := by
  have h1 : wT1 lim w k = w k := by
    unfold wT1
    split
    · exact pk_un h
    · rfl
  unfold wT2
  split
  · rw [pk_un h]; exact h1
  · exact h1
theorem turn_eq {st w : Nat → Int32} (hl : bt (st 4) 36 108) (ht : bt (w 7) (-1000) 1000) (h5 : bt (w 5) 0 35) (h6 : bt (w 6) 0 35) (hb : isB (w 15)) : mL3 st (mL2 (mBeg st w) (mEnds w) w) = wTurn (st 4) w := by
  rw [mL2_eq (mWd_eq hl ht)]
  unfold wTurn
  exact mL3_eq hl (by rw [wT2_ne (by decide)]; exact ht) (by rw [wT2_ne (by decide)]; exact h5) (by rw [wT2_ne (by decide)]; exact h6) (wT2_15 hb)
/-- the trips' count lies outside of the wheel -/
theorem u17_looks (st v : Nat → Int32) (e y : Int32) : mLooks st (upd v 17 y) e = upd (mLooks st v e) 17 y := by
  have t : ∀ (v : Nat → Int32) (d : Int32), wTurnBy (upd v 17 y) d = upd (wTurnBy v d) 17 y := by
    intro v d
    show upd (upd (upd v 17 y) 6 _) 7 _ = upd (upd (upd v 6 _) 7 _) 17 y
    rw [upd_comm v _ _ (show 17 ≠ 6 by decide), upd_comm _ _ _ (show 17 ≠ 7 by decide)]
    rfl
  have l3 : ∀ v : Nat → Int32, mL3 st (upd v 17 y) = upd (mL3 st v) 17 y := by
    intro v
    show (if v 15 = 1 then wTurnBy (upd v 17 y) (if v 7 ≤ 0 then 1 else -1) else if 3 < v 0 then upd v 17 y else if v 14 < 3 then upd v 17 y else if st 4 < mAway (v 7 + mBy v) 0 then upd v 17 y else wTurnBy (upd v 17 y) (mBy v)) = upd (mL3 st v) 17 y
    unfold mL3
    repeat' split
    all_goals first | rfl | exact t _ _
  have l2 : ∀ (b c : Int32) (v : Nat → Int32), mL2 b c (upd v 17 y) = upd (mL2 b c v) 17 y := fun b c v => upd_comm v _ _ (by decide)
  have l1 : ∀ v : Nat → Int32, mL1 e (upd v 17 y) = upd (mL1 e v) 17 y := fun v => upd_comm v _ _ (by decide)
  unfold mLooks
  rw [l1]
  show mL3 st (mL2 (mBeg st (mL1 e v)) (mEnds (mL1 e v)) (upd (mL1 e v) 17 y)) = _
  rw [l2, l3]
theorem u17_holds (st v : Nat → Int32) (y : Int32) : mHolds st (upd v 17 y) = upd (mHolds st v) 17 y := by
  have a1 : ∀ v : Nat → Int32, mH1 st (upd v 17 y) = upd (mH1 st v) 17 y := fun v => upd_comm v _ _ (by decide)
  have a2 : ∀ v : Nat → Int32, mH2 st (upd v 17 y) = upd (mH2 st v) 17 y := fun v => upd_comm v _ _ (by decide)
  have a3 : ∀ v : Nat → Int32, mH3 (upd v 17 y) = upd (mH3 v) 17 y := fun v => upd_comm v _ _ (by decide)
  have a4 : ∀ v : Nat → Int32, mH4 (upd v 17 y) = upd (mH4 v) 17 y := fun v => upd_comm v _ _ (by decide)
  unfold mHolds
  rw [a1, a2, a3, a4]
end
section
/-! What stays so from tick to tick: the ranges, and the bound on SPEED. -/
def okSet (st : Nat → Int32) : Prop := bt (st 0) 40 120 ∧ bt (st 1) 41 200 ∧ bt (st 2) 1 10 ∧ bt (st 3) 11 40 ∧ bt (st 4) 36 108 ∧ bt (st 5) 1 9
def wRng (st w : Nat → Int32) : Prop := isMode (w 0) ∧ bt (w 1) 0 999 ∧ bt (w 2) 0 90 ∧ bt (w 3) 0 100 ∧ bt (w 4) 0 40 ∧ bt (w 5) 0 35 ∧ bt (w 6) 0 35 ∧ bt (w 7) (-(st 4).toInt) (st 4).toInt ∧ bt (w 8) 0 5 ∧ isB (w 9) ∧ isB (w 10) ∧ isB (w 15)
/-- the bound: q is how far PITCH is from 90 -/
def wPot (w : Nat → Int32) : Prop := (w 0 = 0 → 36 * (w 1).toInt + 5 * ((90 - (w 2).toInt) * (90 - (w 2).toInt)) ≤ 35280) ∧ (¬ w 0 = 0 → 72 * (w 1).toInt + 5 * ((90 - (w 2).toInt) * (90 - (w 2).toInt)) ≤ 71770) ∧ (w 0 = 5 → 6 ≤ (w 2).toInt ∨ 84 ≤ 2 * (w 1).toInt + 15 * (w 2).toInt)
theorem near_i {v a m : Int32} (hv : bt v (-1000000) 1000000) (ha : bt a (-1000000) 1000000) (hm : bt m 0 1000000) : (wNear v a m).toInt = if a.toInt ≤ v.toInt then (if a.toInt < v.toInt - m.toInt then v.toInt - m.toInt else a.toInt) else (if v.toInt + m.toInt < a.toInt then v.toInt + m.toInt else a.toInt) := by
  obtain ⟨v1, v2⟩ := hv
  obtain ⟨a1, a2⟩ := ha
  obtain ⟨m1, m2⟩ := hm
  have ea : (v + m).toInt = v.toInt + m.toInt := i_add (by omega) (by omega)
  have es : (v - m).toInt = v.toInt - m.toInt := i_sub (by omega) (by omega)
  unfold wNear jmax jmin
  simp only [i_le, i_lt, ea, es]
  repeat' split
  all_goals first | assumption | omega | (simp only [ea, es]; done)
theorem fd_tab : ∀ a : Nat, a < 2001 → (jfdiv (nI a - 1000) 8).toInt = ((a : Int) - 1000) / 8 := by decide +kernel
theorem fd_i {x : Int32} (h : bt x (-1000) 1000) : (jfdiv x 8).toInt = x.toInt / 8 := by
  obtain ⟨g1, g2⟩ := h
  have e : x = nI (x.toInt + 1000).toNat - 1000 := by
    have e1 : (nI (x.toInt + 1000).toNat).toInt = x.toInt + 1000 := by rw [nI_toInt (by omega)]; omega
    have e2 : (1000 : Int32).toInt = 1000 := rfl
    rw [i_eq, i_sub (by rw [e1, e2]; omega) (by rw [e1, e2]; omega), e1, e2]
    omega
  have k := fd_tab (x.toInt + 1000).toNat (by omega)
  rw [← e] at k
  rw [k]
  congr 1
  omega
theorem div_i {x y : Int32} (hx : 0 ≤ x.toInt) (hy : 0 < y.toInt) : (x / y).toInt = x.toInt / y.toInt := by
  have r := i_rng x
  have k1 : 0 ≤ x.toInt / y.toInt := Int.ediv_nonneg hx (by omega)
  have k2 : x.toInt / y.toInt ≤ x.toInt := Int.ediv_le_self _ hx
  rw [Int32.toInt_div, Int.tdiv_eq_ediv_of_nonneg hx, i_bm (by omega) (by omega)]
theorem mul_rng {x y a b : Int} (hx : 0 ≤ x) (hxa : x ≤ a) (hy : 0 ≤ y) (hyb : y ≤ b) : 0 ≤ x * y ∧ x * y ≤ a * b := ⟨Int.mul_nonneg hx hy, Int.mul_le_mul hxa hyb hy (by omega)⟩
theorem jmax_i (x y : Int32) : (jmax x y).toInt = if x.toInt < y.toInt then y.toInt else x.toInt := by
  unfold jmax
  simp only [i_lt]
  split <;> rfl
theorem jmin_i (x y : Int32) : (jmin x y).toInt = if y.toInt < x.toInt then y.toInt else x.toInt := by
  unfold jmin
  simp only [i_lt]
  split <;> rfl
theorem imul_rng {x y : Int32} {a b : Int} (hx : bt x 0 a) (hy : bt y 0 b) (hab : a * b < 2147483648) : (x * y).toInt = x.toInt * y.toInt ∧ bt (x * y) 0 (a * b) := by
  have m := mul_rng hx.1 hx.2 hy.1 hy.2
  have e : (x * y).toInt = x.toInt * y.toInt := i_mul (Int.le_trans (by decide) m.1) (Int.lt_of_le_of_lt m.2 hab)
  exact ⟨e, by unfold bt; rw [e]; exact m⟩
theorem isub_rng {k : Int32} {x : Int32} {a b c : Int} (hk : k.toInt = c) (hc : 0 ≤ c) (hc2 : c ≤ 1000) (hx : bt x a b) (ha : -1000 ≤ a) (hb : b ≤ 1000) : (k - x).toInt = c - x.toInt := by
  obtain ⟨x1, x2⟩ := hx
  rw [i_sub (by rw [hk]; omega) (by rw [hk]; omega), hk]
theorem drive_i {w : Nat → Int32} {e : Int32} (h2 : bt (w 2) 0 90) (h4 : bt (w 4) 0 40) (h8 : bt (w 8) 0 5) (he : bt e 0 18) : 0 ≤ (wDrive w e).toInt ∧ 9 * (wDrive w e).toInt ≤ 20 * (90 - (w 2).toInt) := by
  have s1 : (9 - e).toInt = 9 - e.toInt := isub_rng rfl (by decide) (by decide) he (by decide) (by decide)
  have s2 : (10 - w 8).toInt = 10 - (w 8).toInt := isub_rng rfl (by decide) (by decide) h8 (by decide) (by decide)
  have s3 : (90 - w 2).toInt = 90 - (w 2).toInt := isub_rng rfl (by decide) (by decide) h2 (by decide) (by decide)
  have k0 : bt (jmax 0 (9 - e)) 0 9 := by
    unfold bt
    rw [jmax_i, s1, i_z]
    obtain ⟨e1, e2⟩ := he
    split <;> omega
  have k8 : bt (10 - w 8) 0 10 := by
    unfold bt
    rw [s2]
    obtain ⟨e1, e2⟩ := h8
    omega
  have k2 : bt (90 - w 2) 0 90 := by
    unfold bt
    rw [s3]
    obtain ⟨e1, e2⟩ := h2
    omega
  unfold wDrive
  have m1 := imul_rng h4 k0 (by decide)
  have m2 := imul_rng m1.2 k8 (by decide)
  have m3 := imul_rng m2.2 k2 (by decide)
  generalize w 4 * jmax 0 (9 - e) * (10 - w 8) = X at m2 m3
  have m4 : X.toInt * (90 - w 2).toInt ≤ 3600 * (90 - w 2).toInt := Int.mul_le_mul_of_nonneg_right m2.2.2 k2.1
  rw [← m3.1, s3] at m4
  have n3 := m3.2.1
  generalize X * (90 - w 2) = Y at m4 n3
  have t4 : (Y / 1620).toInt = Y.toInt / 1620 := div_i n3 (by decide)
  rw [t4]
  clear t4 m3 m1 m2
  constructor <;> omega
theorem drag_i {w : Nat → Int32} (h1 : bt (w 1) 0 999) : (wDrag w).toInt = if (w 1).toInt = 0 then 0 else (w 1).toInt / 10 + 1 := by
  obtain ⟨a1, a2⟩ := h1
  have l10 : (10 : Int32).toInt = 10 := rfl
  have d1 : (w 1 / 10).toInt = (w 1).toInt / 10 := div_i a1 (by decide)
  unfold wDrag
  simp only [i_eq, i_z]
  split
  · rfl
  · rw [i_add (by rw [d1, i_one]; omega) (by rw [d1, i_one]; omega), d1, i_one]
end
section
theorem head_tab : ∀ n, n < 36 → bt (nI n + 1 + 36 - (nI n + 1 + 36) / 36 * 36) 0 35 ∧ bt (nI n + (-1) + 36 - (nI n + (-1) + 36) / 36 * 36) 0 35 := by
  have k : ∀ n, n < 36 → (0 ≤ (nI n + 1 + 36 - (nI n + 1 + 36) / 36 * 36).toInt ∧ (nI n + 1 + 36 - (nI n + 1 + 36) / 36 * 36).toInt ≤ 35) ∧ (0 ≤ (nI n + (-1) + 36 - (nI n + (-1) + 36) / 36 * 36).toInt ∧ (nI n + (-1) + 36 - (nI n + (-1) + 36) / 36 * 36).toInt ≤ 35) := by decide +kernel
  exact k
theorem turnBy_6 {v : Nat → Int32} {d : Int32} (h6 : bt (v 6) 0 35) (hd : d = 1 ∨ d = -1) : bt (wTurnBy v d 6) 0 35 := by
  obtain ⟨n, hn, e⟩ := bt_nI (hi := 35) h6 (by decide)
  have k := head_tab n (by omega)
  show bt (v 6 + d + 36 - (v 6 + d + 36) / 36 * 36) 0 35
  rw [e]
  rcases hd with rfl | rfl
  · exact k.1
  · exact k.2
theorem turnBy_7 (v : Nat → Int32) (d : Int32) : wTurnBy v d 7 = v 7 + d := rfl
theorem turnBy_ne {v : Nat → Int32} {d : Int32} {k : Nat} (h6 : k ≠ 6) (h7 : k ≠ 7) : wTurnBy v d k = v k := by
  unfold wTurnBy
  rw [pk_un h7, pk_un h6]
theorem by_1 (v : Nat → Int32) : (if 18 < wAhead v then (-1 : Int32) else 1) = 1 ∨ (if 18 < wAhead v then (-1 : Int32) else 1) = -1 := by
  by_cases c : 18 < wAhead v
  · rw [if_pos c]; exact Or.inr rfl
  · rw [if_neg c]; exact Or.inl rfl
theorem wT3_cases {lim : Int32} {v : Nat → Int32} (hl : bt lim 36 108) (h7 : bt (v 7) (-lim.toInt) lim.toInt) : wT3 lim v = v ∨ ∃ d : Int32, (d = 1 ∨ d = -1) ∧ wT3 lim v = wTurnBy v d ∧ bt (v 7 + d) (-lim.toInt) lim.toInt := by
  obtain ⟨l1, l2⟩ := hl
  obtain ⟨t1, t2⟩ := h7
  have m1 : (-1 : Int32).toInt = -1 := rfl
  have en : (-lim).toInt = -lim.toInt := i_neg (by omega)
  unfold wT3
  have hd := by_1 v
  generalize (if 18 < wAhead v then (-1 : Int32) else 1) = d at hd ⊢
  by_cases c0 : v 15 = 0
  · rw [if_pos c0]
    by_cases c1 : 3 < v 0
    · rw [if_pos c1]; exact Or.inl rfl
    rw [if_neg c1]
    by_cases c2 : v 14 < 3
    · rw [if_pos c2]; exact Or.inl rfl
    rw [if_neg c2]
    by_cases c3 : lim < v 7 + d
    · rw [if_pos c3]; exact Or.inl rfl
    rw [if_neg c3]
    by_cases c4 : v 7 + d < -lim
    · rw [if_pos c4]; exact Or.inl rfl
    rw [if_neg c4]
    rw [i_lt] at c3 c4
    rw [en] at c4
    exact Or.inr ⟨d, hd, rfl, by omega, by omega⟩
  · rw [if_neg c0]
    by_cases c : v 7 ≤ 0
    · rw [if_pos c]
      rw [i_le, i_z] at c
      refine Or.inr ⟨1, Or.inl rfl, rfl, ?_⟩
      unfold bt
      rw [i_add (by rw [i_one]; omega) (by rw [i_one]; omega), i_one]
      omega
    · rw [if_neg c]
      rw [i_le, i_z] at c
      refine Or.inr ⟨-1, Or.inr rfl, rfl, ?_⟩
      unfold bt
      rw [i_add (by rw [m1]; omega) (by rw [m1]; omega), m1]
      omega
/-- turning: what it leaves, what it keeps -/
theorem wTurn_rng {lim : Int32} {w : Nat → Int32} (hl : bt lim 36 108) (h6 : bt (w 6) 0 35) (h7 : bt (w 7) (-lim.toInt) lim.toInt) (hb : isB (w 15)) : (∀ k, k ≠ 6 → k ≠ 7 → k ≠ 15 → wTurn lim w k = w k) ∧ bt (wTurn lim w 6) 0 35 ∧ bt (wTurn lim w 7) (-lim.toInt) lim.toInt ∧ isB (wTurn lim w 15) := by
  have e6 : wT2 (wT1 lim w) 6 = w 6 := wT2_ne (by decide)
  have e7 : wT2 (wT1 lim w) 7 = w 7 := wT2_ne (by decide)
  have e15 := wT2_15 (lim := lim) hb
  have ek : ∀ k, k ≠ 15 → wT2 (wT1 lim w) k = w k := fun k h => wT2_ne h
  unfold wTurn
  generalize wT2 (wT1 lim w) = v at *
  rcases wT3_cases (lim := lim) (v := v) hl (by rw [e7]; exact h7) with h | ⟨d, hd, h, hz⟩
  · rw [h]
    exact ⟨fun k a b c => ek k c, by rw [e6]; exact h6, by rw [e7]; exact h7, e15⟩
  · rw [h]
    refine ⟨fun k a b c => by rw [turnBy_ne a b]; exact ek k c, turnBy_6 (by rw [e6]; exact h6) hd, ?_, ?_⟩
    · rw [turnBy_7]; exact hz
    · rw [turnBy_ne (by decide) (by decide)]; exact e15
/-- the pitch's aim, the torque's aim -/
theorem aim_rng {st w : Nat → Int32} (h0 : bt (st 0) 40 120) (h1 : bt (w 1) 0 999) (h2 : bt (w 2) 0 90) : bt (wPitchAim st w) 0 90 := by
  unfold wPitchAim
  have j : ∀ x : Int32, bt (jmax 0 (jmin 90 x)) 0 90 := by
    intro x
    have l90 : (90 : Int32).toInt = 90 := rfl
    unfold bt
    rw [jmax_i, jmin_i, i_z, l90]
    repeat' split
    all_goals omega
  split
  · exact ⟨by decide, by decide⟩
  split
  · exact ⟨by decide, by decide⟩
  split
  · exact j _
  · exact ⟨by decide, by decide⟩
theorem tor_rng {st w : Nat → Int32} (h0 : bt (st 0) 40 120) (h1 : bt (w 1) 0 999) (h2 : w 0 = 2 → (w 1).toInt ≤ 200) : bt (wTorqueAim st w) 0 100 := by
  obtain ⟨a1, a2⟩ := h0
  obtain ⟨b1, b2⟩ := h1
  have e1 : (w 1 / 2).toInt = (w 1).toInt / 2 := div_i b1 (by decide)
  have e2 : (st 0 / 2).toInt = (st 0).toInt / 2 := div_i (by omega) (by decide)
  unfold wTorqueAim bt
  split
  · rename_i c
    have := h2 c
    rw [e1]; omega
  split
  · rw [e2]; omega
  · rw [i_z]; omega
/-- where the mode comes to be SLOW, STARTING .., SPEED wasn't above TRIP -/
theorem mode_slow {st w : Nat → Int32} (hm : isMode (w 0)) (h : wMode st w = 2 ∨ wMode st w = 3 ∨ wMode st w = 4) : w 1 ≤ st 1 := by
  apply Classical.byContradiction
  intro hn
  rcases hm with e | e | e | e | e | e
  · have : wMode st w = 0 ∨ wMode st w = 1 := by
      unfold wMode
      rw [e, if_neg (by simp), if_neg (by simp), if_pos rfl]
      split
      · exact Or.inr rfl
      · exact Or.inl rfl
    rcases this with k | k <;> rw [k] at h <;> simp at h
  · have : wMode st w = 5 := by unfold wMode; rw [if_pos ⟨hn, Or.inl e⟩]
    rw [this] at h; simp at h
  · have : wMode st w = 5 := by unfold wMode; rw [if_pos ⟨hn, Or.inr (Or.inl e)⟩]
    rw [this] at h; simp at h
  · have : wMode st w = 5 := by unfold wMode; rw [if_pos ⟨hn, Or.inr (Or.inr (Or.inl e))⟩]
    rw [this] at h; simp at h
  · have : wMode st w = 5 := by unfold wMode; rw [if_pos ⟨hn, Or.inr (Or.inr (Or.inr e))⟩]
    rw [this] at h; simp at h
  · have : wMode st w = 5 := by
      unfold wMode
      rw [e, if_neg (by simp), if_neg (by simp), if_neg (by decide), if_neg (by decide), if_neg (by decide), if_neg (by decide), if_neg (by decide)]
    rw [this] at h; simp at h
end
section
/-! One tick: the model's is the class's. -/
theorem near_rng {v a m : Int32} {lo hi : Int} (hv : bt v lo hi) (ha : bt a lo hi) (hm : bt m 0 1000) (hlo : -1000 ≤ lo) (hhi : hi ≤ 1000) : bt (wNear v a m) lo hi := by
  have e := near_i (v := v) (a := a) (m := m) ⟨by have := hv.1; omega, by have := hv.2; omega⟩ ⟨by have := ha.1; omega, by have := ha.2; omega⟩ ⟨hm.1, by have := hm.2; omega⟩
  obtain ⟨v1, v2⟩ := hv
  obtain ⟨a1, a2⟩ := ha
  obtain ⟨m1, m2⟩ := hm
  unfold bt
  rw [e]
  repeat' split
  all_goals omega
theorem rate_rng {st : Nat → Int32} (h5 : bt (st 5) 1 9) (c : Prop) [Decidable c] : bt (if c then 2 * st 5 else st 5) 1 18 := by
  obtain ⟨a1, a2⟩ := h5
  have l2 : (2 : Int32).toInt = 2 := rfl
  have e : (2 * st 5).toInt = 2 * (st 5).toInt := by rw [i_mul (by rw [l2]; omega) (by rw [l2]; omega), l2]
  unfold bt
  split
  · rw [e]; omega
  · omega
theorem bt.mono {x : Int32} {a b c d : Int} (h : bt x a b) (h1 : c ≤ a) (h2 : b ≤ d) : bt x c d := ⟨Int.le_trans h1 h.1, Int.le_trans h.2 h2⟩
/-- a wheel's ranges behind the mode's change: the mode apart, as ahead of it -/
def bRng (st b : Nat → Int32) : Prop := bt (b 1) 0 999 ∧ bt (b 2) 0 90 ∧ bt (b 3) 0 100 ∧ bt (b 4) 0 40 ∧ bt (b 5) 0 35 ∧ bt (b 6) 0 35 ∧ bt (b 7) (-(st 4).toInt) (st 4).toInt ∧ bt (b 8) 0 5 ∧ isB (b 15) ∧ (b 0 = 2 → (b 1).toInt ≤ 200)
theorem bt10 : bt 10 0 1000 := ⟨by decide, by decide⟩
theorem h1_eq {st b : Nat → Int32} (hs : okSet st) (hr : bRng st b) : mH1 st b = wS5 st b ∧ bt (wS5 st b 2) 0 90 := by
  obtain ⟨s0, s1, s2, s3, s4, s5⟩ := hs
  obtain ⟨r1, r2, r3, r4, r5, r6, r7, r8, r15, rs⟩ := hr
  have aim := aim_rng (st := st) (w := b) s0 r1 r2
  have rt := rate_rng s5 (b 0 = 5)
  constructor
  · unfold mH1 wS5
    rw [mPG_eq, mTow_eq (r2.mono (by omega) (by omega)) (aim.mono (by omega) (by omega)) (rt.mono (by omega) (by omega))]
  · exact near_rng r2 aim (rt.mono (by omega) (by omega)) (by omega) (by omega)
theorem goal_eq (st c : Nat → Int32) : mGoal st c = wTorqueAim st c := rfl
theorem h2_eq {st c : Nat → Int32} (hs : okSet st) (hc3 : bt (c 3) 0 100) (hc1 : bt (c 1) 0 999) (rs : c 0 = 2 → (c 1).toInt ≤ 200) : mH2 st c = wS6 st c ∧ bt (wS6 st c 3) 0 100 := by
  obtain ⟨s0, s1, s2, s3, s4, s5⟩ := hs
  have tor := tor_rng (st := st) (w := c) s0 hc1 rs
  constructor
  · unfold mH2 wS6
    rw [goal_eq, mTow_eq (hc3.mono (by omega) (by omega)) (tor.mono (by omega) (by omega)) (bt10.mono (by omega) (by omega))]
  · show bt (if c 9 = 0 then 0 else wNear (c 3) (wTorqueAim st c) 10) 0 100
    split
    · exact ⟨by decide, by decide⟩
    · exact near_rng hc3 tor bt10 (by omega) (by omega)
theorem more_rng {st d : Nat → Int32} (d1 : bt (d 1) 0 999) (d2 : bt (d 2) 0 90) (d3 : bt (d 3) 0 100) (d4 : bt (d 4) 0 40) (d5 : bt (d 5) 0 35) (d6 : bt (d 6) 0 35) (d8 : bt (d 8) 0 5) : bt (wDrive d (wError d) - d 3 - wDrag d) (-1000) 1000 ∧ (wDrive d (wError d) - d 3 - wDrag d).toInt = (wDrive d (wError d)).toInt - (d 3).toInt - (if (d 1).toInt = 0 then 0 else (d 1).toInt / 10 + 1) ∧ 0 ≤ (wDrive d (wError d)).toInt ∧ 9 * (wDrive d (wError d)).toInt ≤ 20 * (90 - (d 2).toInt) := by
  have de := err_eq (w := d) d5 d6
  have dr := drive_i (w := d) (e := wError d) d2 d4 d8 de.2.2
  have dg := drag_i (w := d) d1
  obtain ⟨x1, x2⟩ := dr
  obtain ⟨y1, y2⟩ := d3
  obtain ⟨p1, p2⟩ := d2
  obtain ⟨a1, a2⟩ := d1
  have dgr : 0 ≤ (wDrag d).toInt ∧ (wDrag d).toInt ≤ 101 := by
    rw [dg]
    split <;> omega
  have e1 : (wDrive d (wError d) - d 3).toInt = (wDrive d (wError d)).toInt - (d 3).toInt := i_sub (by omega) (by omega)
  have e2 : (wDrive d (wError d) - d 3 - wDrag d).toInt = (wDrive d (wError d)).toInt - (d 3).toInt - (wDrag d).toInt := by rw [i_sub (by rw [e1]; omega) (by rw [e1]; omega), e1]
  refine ⟨?_, by rw [e2, dg], x1, x2⟩
  unfold bt
  rw [e2]
  omega
theorem h34_eq {d : Nat → Int32} (d5 : bt (d 5) 0 35) (d6 : bt (d 6) 0 35) (more : bt (wDrive d (wError d) - d 3 - wDrag d) (-1000) 1000) : mH4 (mH3 d) = wS7 (wError d) d := by
  have e0 : mDrag d = wDrag d := rfl
  have e1 : mH3 d = upd d 1 (d 1 + jfdiv (wDrive d (wError d) - d 3 - wDrag d) 8) := by
    unfold mH3
    rw [mDrive_eq d5 d6, e0, mFl_eq more]
  unfold mH4 wS7
  rw [e1, pk_us, upd_upd, jmax0]
theorem wError_congr {u v : Nat → Int32} (h5 : u 5 = v 5) (h6 : u 6 = v 6) : wError u = wError v := by
  unfold wError wAhead
  rw [h5, h6]
theorem holds_eq {st b : Nat → Int32} (hs : okSet st) (hr : bRng st b) : mHolds st b = wS7 (wError b) (wS6 st (wS5 st b)) ∧ bt (wS5 st b 2) 0 90 ∧ bt (wS6 st (wS5 st b) 3) 0 100 := by
  obtain ⟨e1, c2⟩ := h1_eq hs hr
  obtain ⟨r1, r2, r3, r4, r5, r6, r7, r8, r15, rs⟩ := hr
  have n5 : ∀ k, k ≠ 2 → wS5 st b k = b k := fun k h => pk_un h
  have n6 : ∀ k, k ≠ 2 → k ≠ 3 → wS6 st (wS5 st b) k = b k := fun k h h' => (pk_un h').trans (n5 k h)
  obtain ⟨e2, d3⟩ := h2_eq (c := wS5 st b) hs (by rw [n5 3 (by decide)]; exact r3) (by rw [n5 1 (by decide)]; exact r1) (by rw [n5 0 (by decide), n5 1 (by decide)]; exact rs)
  have q2 : wS6 st (wS5 st b) 2 = wS5 st b 2 := pk_un (by decide)
  have mr := more_rng (st := st) (d := wS6 st (wS5 st b)) (by rw [n6 1 (by decide) (by decide)]; exact r1) (by rw [q2]; exact c2) d3 (by rw [n6 4 (by decide) (by decide)]; exact r4) (by rw [n6 5 (by decide) (by decide)]; exact r5) (by rw [n6 6 (by decide) (by decide)]; exact r6) (by rw [n6 8 (by decide) (by decide)]; exact r8)
  have e3 := h34_eq (d := wS6 st (wS5 st b)) (by rw [n6 5 (by decide) (by decide)]; exact r5) (by rw [n6 6 (by decide) (by decide)]; exact r6) mr.1
  have e5 : wS6 st (wS5 st b) 5 = b 5 := n6 5 (by decide) (by decide)
  have e6 : wS6 st (wS5 st b) 6 = b 6 := n6 6 (by decide) (by decide)
  unfold mHolds
  rw [e1, e2, e3, wError_congr e5 e6]
  exact ⟨rfl, c2, d3⟩
theorem looks_eq {st f : Nat → Int32} {e : Int32} (hs : okSet st) (h5 : bt (f 5) 0 35) (h6 : bt (f 6) 0 35) (h7 : bt (f 7) (-1000) 1000) (hb : isB (f 15)) : mLooks st f e = wTurn (st 4) (wS8 e f) := by
  have e1 : mL1 e f = wS8 e f := rfl
  unfold mLooks
  rw [e1]
  exact turn_eq hs.2.2.2.2.1 h7 h5 h6 hb
/-- what a tick comes to -/
theorem goes_eq {st w : Nat → Int32} (hs : okSet st) (hr : wRng st w) : mGoes st w = upd (wStep st w) 17 (w 17 + (if wMode st (wS3 (wS2 st (wS1 st w))) = 5 then (if w 0 = 5 then 0 else 1) else 0)) ∧ bt (wS5 st (wS4 st (wS3 (wS2 st (wS1 st w)))) 2) 0 90 ∧ bt (wS6 st (wS5 st (wS4 st (wS3 (wS2 st (wS1 st w))))) 3) 0 100 := by
  obtain ⟨r0, r1, r2, r3, r4, r5, r6, r7, r8, r9, r10, r15⟩ := hr
  have s4 := hs.2.2.2.2.1
  have r7' : bt (w 7) (-1000) 1000 := ⟨by have := r7.1; have := s4.2; omega, by have := r7.2; have := s4.2; omega⟩
  have ha : mCounts st w = wS3 (wS2 st (wS1 st w)) := by unfold mCounts; rw [mC1_eq hs.2.2.2.1]; rfl
  have hk : ∀ k, k ≠ 11 → k ≠ 12 → k ≠ 13 → wS3 (wS2 st (wS1 st w)) k = w k := by
    intro k a b c
    unfold wS3 wS2 wS1
    rw [pk_un c, pk_un b, pk_un a]
  unfold mGoes wStep
  rw [ha]
  generalize wS3 (wS2 st (wS1 st w)) = a at *
  have qm : mMode st a = wMode st a := mMode_eq (mWd_eq s4 (by rw [hk 7 (by decide) (by decide) (by decide)]; exact r7')) (by rw [hk 10 (by decide) (by decide) (by decide)]; exact r10)
  have k0 := hk 0 (by decide) (by decide) (by decide)
  have hb : mG1 st a = upd (wS4 st a) 17 (w 17 + (if wMode st a = 5 then (if w 0 = 5 then 0 else 1) else 0)) := by
    unfold mG1 wS4
    rw [qm, upd_comm _ _ _ (show 17 ≠ 0 by decide), k0, hk 17 (by decide) (by decide) (by decide)]
  have hB : bRng st (wS4 st a) := by
    have ne : ∀ k, k ≠ 0 → wS4 st a k = a k := fun k h => pk_un h
    unfold bRng
    rw [ne 1 (by decide), ne 2 (by decide), ne 3 (by decide), ne 4 (by decide), ne 5 (by decide), ne 6 (by decide), ne 7 (by decide), ne 8 (by decide), ne 15 (by decide)]
    rw [hk 1 (by decide) (by decide) (by decide), hk 2 (by decide) (by decide) (by decide), hk 3 (by decide) (by decide) (by decide), hk 4 (by decide) (by decide) (by decide), hk 5 (by decide) (by decide) (by decide), hk 6 (by decide) (by decide) (by decide), hk 7 (by decide) (by decide) (by decide), hk 8 (by decide) (by decide) (by decide), hk 15 (by decide) (by decide) (by decide)]
    refine ⟨r1, r2, r3, r4, r5, r6, r7, r8, r15, fun h => ?_⟩
    have h : wMode st a = 2 := by
      have e : wS4 st a 0 = wMode st a := pk_us
      rw [← e]; exact h
    have q0 : isMode (a 0) := by rw [k0]; exact r0
    have k : a 1 ≤ st 1 := mode_slow q0 (Or.inl h)
    rw [hk 1 (by decide) (by decide) (by decide), i_le] at k
    have := hs.2.1.2
    omega
  rw [hb, u17_holds, u17_looks]
  have he : mErr (upd (wS4 st a) 17 (w 17 + (if wMode st a = 5 then (if w 0 = 5 then 0 else 1) else 0))) = mErr (wS4 st a) := by
    unfold mErr
    rw [pk_un (show 5 ≠ 17 by decide), pk_un (show 6 ≠ 17 by decide)]
  rw [he]
  generalize wS4 st a = b at *
  obtain ⟨g1, g2, g3⟩ := holds_eq hs hB
  obtain ⟨b1, b2, b3, b4, b5, b6, b7, b8, b15, bs⟩ := hB
  refine ⟨?_, g2, g3⟩
  congr 1
  rw [g1, (err_eq b5 b6).1]
  have n6 : ∀ k, k ≠ 2 → k ≠ 3 → wS6 st (wS5 st b) k = b k := by
    intro k h2 h3
    unfold wS6 wS5
    rw [pk_un h3, pk_un h2]
  have n7 : ∀ k, k ≠ 1 → k ≠ 2 → k ≠ 3 → wS7 (wError b) (wS6 st (wS5 st b)) k = b k := by
    intro k h1 h2 h3
    unfold wS7
    rw [pk_un h1, n6 k h2 h3]
  rw [looks_eq hs (by rw [n7 5 (by decide) (by decide) (by decide)]; exact b5) (by rw [n7 6 (by decide) (by decide) (by decide)]; exact b6) (by rw [n7 7 (by decide) (by decide) (by decide)]; exact ⟨by have := b7.1; have := s4.2; omega, by have := b7.2; have := s4.2; omega⟩) (by rw [n7 15 (by decide) (by decide) (by decide)]; exact b15)]
  unfold wEnd
  rw [wError_congr (n6 5 (by decide) (by decide)) (n6 6 (by decide) (by decide))]
end
section
/-! The bound on SPEED is kept. -/
theorem mode_trans {st w : Nat → Int32} (hm : isMode (w 0)) : (w 0 = 0 ∧ (wMode st w = 0 ∨ wMode st w = 1)) ∨ (w 0 = 5 ∧ wMode st w = 5) ∨ ((¬ w 0 = 0 ∧ ¬ w 0 = 5) ∧ ¬ w 1 ≤ st 1 ∧ wMode st w = 5) ∨ (w 0 = 4 ∧ wMode st w = 0 ∧ w 1 = 0 ∧ w 2 = 90) ∨ ((¬ w 0 = 0 ∧ ¬ w 0 = 5) ∧ w 1 ≤ st 1 ∧ (wMode st w = 1 ∨ wMode st w = 2 ∨ wMode st w = 3 ∨ wMode st w = 4)) := by
  rcases hm with e | e | e | e | e | e
  · refine Or.inl ⟨e, ?_⟩
    unfold wMode
    rw [e, if_neg (by simp), if_neg (by simp), if_pos rfl]
    split
    · exact Or.inr rfl
    · exact Or.inl rfl
  · by_cases c : w 1 ≤ st 1
    · refine Or.inr (Or.inr (Or.inr (Or.inr ⟨⟨by rw [e]; decide, by rw [e]; decide⟩, c, ?_⟩)))
      unfold wMode
      rw [if_neg (fun h => h.1 c)]
      by_cases c2 : (w 0 = 1 ∨ w 0 = 2 ∨ w 0 = 3) ∧ (w 10 = 0 ∨ 2 ≤ w 12 ∨ 4 ≤ w 13 ∨ ¬ wWd w (st 4) = 0)
      · rw [if_pos c2]; exact Or.inr (Or.inr (Or.inr rfl))
      · rw [if_neg c2, e, if_neg (by decide), if_pos rfl]
        split
        · exact Or.inl rfl
        · exact Or.inr (Or.inl rfl)
    · refine Or.inr (Or.inr (Or.inl ⟨⟨by rw [e]; decide, by rw [e]; decide⟩, c, ?_⟩))
      unfold wMode
      rw [if_pos ⟨c, Or.inl e⟩]
  · by_cases c : w 1 ≤ st 1
    · refine Or.inr (Or.inr (Or.inr (Or.inr ⟨⟨by rw [e]; decide, by rw [e]; decide⟩, c, ?_⟩)))
      unfold wMode
      rw [if_neg (fun h => h.1 c)]
      by_cases c2 : (w 0 = 1 ∨ w 0 = 2 ∨ w 0 = 3) ∧ (w 10 = 0 ∨ 2 ≤ w 12 ∨ 4 ≤ w 13 ∨ ¬ wWd w (st 4) = 0)
      · rw [if_pos c2]; exact Or.inr (Or.inr (Or.inr rfl))
      · rw [if_neg c2, e, if_neg (by decide), if_neg (by decide), if_pos rfl]
        repeat' split
        all_goals first | exact Or.inr (Or.inl rfl) | exact Or.inr (Or.inr (Or.inl rfl)) | exact Or.inr (Or.inr (Or.inr rfl))
    · refine Or.inr (Or.inr (Or.inl ⟨⟨by rw [e]; decide, by rw [e]; decide⟩, c, ?_⟩))
      unfold wMode
      rw [if_pos ⟨c, Or.inr (Or.inl e)⟩]
  · by_cases c : w 1 ≤ st 1
    · refine Or.inr (Or.inr (Or.inr (Or.inr ⟨⟨by rw [e]; decide, by rw [e]; decide⟩, c, ?_⟩)))
      unfold wMode
      rw [if_neg (fun h => h.1 c)]
      by_cases c2 : (w 0 = 1 ∨ w 0 = 2 ∨ w 0 = 3) ∧ (w 10 = 0 ∨ 2 ≤ w 12 ∨ 4 ≤ w 13 ∨ ¬ wWd w (st 4) = 0)
      · rw [if_pos c2]; exact Or.inr (Or.inr (Or.inr rfl))
      · rw [if_neg c2, e, if_neg (by decide), if_neg (by decide), if_neg (by decide), if_pos rfl]
        split
        · exact Or.inr (Or.inl rfl)
        · exact Or.inr (Or.inr (Or.inl rfl))
    · refine Or.inr (Or.inr (Or.inl ⟨⟨by rw [e]; decide, by rw [e]; decide⟩, c, ?_⟩))
      unfold wMode
      rw [if_pos ⟨c, Or.inr (Or.inr (Or.inl e))⟩]
  · by_cases c : w 1 ≤ st 1
    · have h0 : wMode st w = if w 1 = 0 ∧ w 2 = 90 then 0 else 4 := by
        unfold wMode
        rw [if_neg (fun h => h.1 c), e, if_neg (by simp), if_neg (by decide), if_neg (by decide), if_neg (by decide), if_neg (by decide), if_pos rfl]
      by_cases c2 : w 1 = 0 ∧ w 2 = 90
      · rw [if_pos c2] at h0
        exact Or.inr (Or.inr (Or.inr (Or.inl ⟨e, h0, c2.1, c2.2⟩)))
      · rw [if_neg c2] at h0
        exact Or.inr (Or.inr (Or.inr (Or.inr ⟨⟨by rw [e]; decide, by rw [e]; decide⟩, c, Or.inr (Or.inr (Or.inr h0))⟩)))
    · refine Or.inr (Or.inr (Or.inl ⟨⟨by rw [e]; decide, by rw [e]; decide⟩, c, ?_⟩))
      unfold wMode
      rw [if_pos ⟨c, Or.inr (Or.inr (Or.inr e))⟩]
  · refine Or.inr (Or.inl ⟨e, ?_⟩)
    unfold wMode
    rw [e, if_neg (by simp), if_neg (by simp), if_neg (by decide), if_neg (by decide), if_neg (by decide), if_neg (by decide), if_neg (by decide)]
theorem sq_le {a b : Int} (ha : 0 ≤ a) (hab : a ≤ b) : a * a ≤ b * b := Int.mul_le_mul hab hab ha (by omega)
theorem sq_add (a c : Int) : (a + c) * (a + c) = a * a + 2 * (c * a) + c * c := by
  rw [Int.add_mul, Int.mul_add, Int.mul_add, Int.mul_comm a c]
  omega
theorem sq1 {q q' : Int} (h0 : 0 ≤ q') (h : q' + 1 ≤ q) : 5 * (q' * q') + 10 * q' + 5 ≤ 5 * (q * q) := by
  have := sq_le (a := q' + 1) (b := q) (by omega) h
  rw [sq_add] at this
  omega
theorem sq2 {q q' : Int} (h0 : 0 ≤ q') (h : q' + 2 ≤ q) : 5 * (q' * q') + 20 * q' + 20 ≤ 5 * (q * q) := by
  have := sq_le (a := q' + 2) (b := q) (by omega) h
  rw [sq_add] at this
  omega
theorem sq3 {q q' : Int} (h0 : 0 ≤ q') (hq : 0 ≤ q) (h : q' ≤ q + 9) : 5 * (q' * q') + 20 * q' ≤ 10 * (q * q) + 1210 := by
  have k1 := sq_le (a := q' + 2) (b := q + 11) (by omega) (by omega)
  rw [sq_add, sq_add] at k1
  have k2 : 0 ≤ (q + (-11)) * (q + (-11)) := by
    rcases Int.le_total 0 (q + (-11)) with h | h
    · exact Int.mul_nonneg h h
    · exact Int.mul_nonneg_of_nonpos_of_nonpos h h
  rw [sq_add] at k2
  omega
/-- the numbers of a tick -/
theorem pot_num {s p t p' s' D G m o : Int} (hs : 0 ≤ s) (hs9 : s ≤ 999) (hp : 0 ≤ p ∧ p ≤ 90) (hp' : 0 ≤ p' ∧ p' ≤ 90) (ht : 0 ≤ t ∧ t ≤ 100) (hD : 0 ≤ D) (hD2 : 9 * D ≤ 20 * (90 - p')) (hG : G = if s = 0 then 0 else s / 10 + 1) (hs' : s' = if 0 < s + (D - t - G) / 8 then s + (D - t - G) / 8 else 0) :
    (36 * s + 5 * ((90 - p) * (90 - p)) ≤ 35280 → (p + 1 ≤ p' ∨ p' = 90) → 36 * s' + 5 * ((90 - p') * (90 - p')) ≤ 35280) ∧
    (36 * s + 5 * ((90 - p) * (90 - p)) ≤ 35280 → p ≤ p' + 9 → 72 * s' + 5 * ((90 - p') * (90 - p')) ≤ 71770) ∧
    (s ≤ 200 → 72 * s' + 5 * ((90 - p') * (90 - p')) ≤ 71770) ∧
    (72 * s + 5 * ((90 - p) * (90 - p)) ≤ 71770 → (p + 2 ≤ p' ∨ p' = 90) → 72 * s' + 5 * ((90 - p') * (90 - p')) ≤ 71770) ∧
    (42 ≤ s → p' ≤ 5 → p + 2 ≤ p' → 84 ≤ 2 * s' + 15 * p') ∧
    (84 ≤ 2 * s + 15 * p → p' ≤ 5 → p + 2 ≤ p' → 84 ≤ 2 * s' + 15 * p') := by
  obtain ⟨p1, p2⟩ := hp
  obtain ⟨p3, p4⟩ := hp'
  obtain ⟨t1, t2⟩ := ht
  have G0 : 0 ≤ G ∧ G ≤ s / 10 + 1 := by
    rw [hG]
    split <;> omega
  obtain ⟨G1, G2⟩ := G0
  have up : s' ≤ s + D / 8 := by
    rw [hs']
    split <;> omega
  have lo : s + (D - t - G) / 8 ≤ s' := by
    rw [hs']
    split <;> omega
  have q8 : (90 - p') * (90 - p') ≤ 90 * 90 := sq_le (by omega) (by omega)
  clear hs' hG
  refine ⟨fun h k => ?_, fun h k => ?_, fun h => ?_, fun h k => ?_, fun h a b => ?_, fun h a b => ?_⟩
  · rcases k with k | k
    · have := sq1 (q := 90 - p) (q' := 90 - p') (by omega) (by omega)
      omega
    · subst k
      have := sq_le (a := (0 : Int)) (b := 90 - p) (by omega) (by omega)
      omega
  · have := sq3 (q := 90 - p) (q' := 90 - p') (by omega) (by omega) (by omega)
    omega
  · omega
  · rcases k with k | k
    · have := sq2 (q := 90 - p) (q' := 90 - p') (by omega) (by omega)
      omega
    · subst k
      have := sq_le (a := (0 : Int)) (b := 90 - p) (by omega) (by omega)
      omega
  · omega
  · omega
end
section
theorem rate_i {st : Nat → Int32} (h5 : bt (st 5) 1 9) : (2 * st 5).toInt = 2 * (st 5).toInt := by
  obtain ⟨a1, a2⟩ := h5
  have l2 : (2 : Int32).toInt = 2 := rfl
  rw [i_mul (by rw [l2]; omega) (by rw [l2]; omega), l2]
/-- the pitch behind a tick, by the mode -/
theorem pitch_i {st b : Nat → Int32} (hs : okSet st) (r1 : bt (b 1) 0 999) (r2 : bt (b 2) 0 90) : (b 0 = 0 → ((b 2).toInt + 1 ≤ (wS5 st b 2).toInt ∨ (wS5 st b 2).toInt = 90)) ∧ (b 0 = 1 → (b 2).toInt ≤ (wS5 st b 2).toInt + 9) ∧ (b 0 = 5 → ((b 2).toInt + 2 ≤ (wS5 st b 2).toInt ∨ (wS5 st b 2).toInt = 90)) := by
  have e0 : wS5 st b 2 = wNear (b 2) (wPitchAim st b) (if b 0 = 5 then 2 * st 5 else st 5) := pk_us
  have s5 := hs.2.2.2.2.2
  have e2 := rate_i s5
  have aim := aim_rng (st := st) (w := b) hs.1 r1 r2
  have rt := rate_rng s5 (b 0 = 5)
  have e1 := near_i (v := b 2) (a := wPitchAim st b) (m := if b 0 = 5 then 2 * st 5 else st 5) (r2.mono (by omega) (by omega)) (aim.mono (by omega) (by omega)) (rt.mono (by omega) (by omega))
  rw [← e0] at e1
  obtain ⟨p1, p2⟩ := r2
  obtain ⟨a1, a2⟩ := s5
  have l90 : (90 : Int32).toInt = 90 := rfl
  have l20 : (20 : Int32).toInt = 20 := rfl
  refine ⟨fun h => ?_, fun h => ?_, fun h => ?_⟩
  · have k : wPitchAim st b = 90 := by
      unfold wPitchAim
      rw [h, if_neg (by decide), if_neg (by decide), if_neg (by decide)]
    have kR : (if b 0 = 5 then 2 * st 5 else st 5) = st 5 := if_neg (by rw [h]; decide)
    rw [k, kR, l90] at e1
    rw [e1]
    repeat' split
    all_goals omega
  · have k : wPitchAim st b = 20 := by
      unfold wPitchAim
      rw [if_pos h]
    have kR : (if b 0 = 5 then 2 * st 5 else st 5) = st 5 := if_neg (by rw [h]; decide)
    rw [k, kR, l20] at e1
    rw [e1]
    repeat' split
    all_goals omega
  · have k : wPitchAim st b = 90 := by
      unfold wPitchAim
      rw [h, if_neg (by decide), if_neg (by decide), if_neg (by decide)]
    have kR : (if b 0 = 5 then 2 * st 5 else st 5) = 2 * st 5 := if_pos h
    rw [k, kR, e2, l90] at e1
    rw [e1]
    repeat' split
    all_goals omega
theorem speed_i {d : Nat → Int32} (d1 : bt (d 1) 0 999) (d2 : bt (d 2) 0 90) (d3 : bt (d 3) 0 100) (d4 : bt (d 4) 0 40) (d5 : bt (d 5) 0 35) (d6 : bt (d 6) 0 35) (d8 : bt (d 8) 0 5) : ∃ D G : Int, 0 ≤ D ∧ 9 * D ≤ 20 * (90 - (d 2).toInt) ∧ G = (if (d 1).toInt = 0 then 0 else (d 1).toInt / 10 + 1) ∧ (wS7 (wError d) d 1).toInt = if 0 < (d 1).toInt + (D - (d 3).toInt - G) / 8 then (d 1).toInt + (D - (d 3).toInt - G) / 8 else 0 := by
  obtain ⟨m1, m2, m3, m4⟩ := more_rng (st := d) d1 d2 d3 d4 d5 d6 d8
  refine ⟨_, _, m3, m4, rfl, ?_⟩
  have e0 : wS7 (wError d) d 1 = jmax 0 (d 1 + jfdiv (wDrive d (wError d) - d 3 - wDrag d) 8) := pk_us
  have e1 := fd_i m1
  rw [m2] at e1
  obtain ⟨q1, q2⟩ := m1
  rw [m2] at q1 q2
  obtain ⟨a1, a2⟩ := d1
  have e2 : (d 1 + jfdiv (wDrive d (wError d) - d 3 - wDrag d) 8).toInt = (d 1).toInt + ((wDrive d (wError d)).toInt - (d 3).toInt - (if (d 1).toInt = 0 then 0 else (d 1).toInt / 10 + 1)) / 8 := by rw [i_add (by rw [e1]; omega) (by rw [e1]; omega), e1]
  rw [e0, jmax_i, e2, i_z]
/-- A TICK KEEPS WHAT IS SO -/
theorem step_inv {st w : Nat → Int32} (hs : okSet st) (hr : wRng st w) (hp : wPot w) : wRng st (wStep st w) ∧ wPot (wStep st w) ∧ (∀ k, 16 ≤ k → wStep st w k = w k) ∧ wStep st w 0 = wMode st (wS3 (wS2 st (wS1 st w))) ∧ wStep st w 4 = w 4 ∧ wStep st w 5 = w 5 ∧ wStep st w 8 = w 8 ∧ wStep st w 9 = w 9 ∧ wStep st w 10 = w 10 := by
  obtain ⟨-, c2, d3⟩ := goes_eq hs hr
  obtain ⟨r0, r1, r2, r3, r4, r5, r6, r7, r8, r9, r10, r15⟩ := hr
  have s4 := hs.2.2.2.2.1
  have hk : ∀ k, k ≠ 11 → k ≠ 12 → k ≠ 13 → wS3 (wS2 st (wS1 st w)) k = w k := by
    intro k a b c
    unfold wS3 wS2 wS1
    rw [pk_un c, pk_un b, pk_un a]
  unfold wStep
  generalize wS3 (wS2 st (wS1 st w)) = a at *
  have a0 := hk 0 (by decide) (by decide) (by decide)
  have a1 := hk 1 (by decide) (by decide) (by decide)
  have a2 := hk 2 (by decide) (by decide) (by decide)
  have hm : isMode (wMode st a) := isMode_wMode (by rw [a0]; exact r0)
  have tr := mode_trans (st := st) (w := a) (by rw [a0]; exact r0)
  rw [a0, a1, a2] at tr
  have hb : ∀ k, k ≠ 0 → k ≠ 11 → k ≠ 12 → k ≠ 13 → wS4 st a k = w k := fun k h x y z => (pk_un h).trans (hk k x y z)
  have b0 : wS4 st a 0 = wMode st a := pk_us
  generalize wMode st a = m at *
  generalize wS4 st a = b at *
  have b1 := hb 1 (by decide) (by decide) (by decide) (by decide)
  have b2 := hb 2 (by decide) (by decide) (by decide) (by decide)
  have pi := pitch_i (st := st) (b := b) hs (by rw [b1]; exact r1) (by rw [b2]; exact r2)
  rw [b0, b2] at pi
  have hd : ∀ k, k ≠ 2 → k ≠ 3 → wS6 st (wS5 st b) k = b k := fun k x y => (pk_un y).trans (pk_un x)
  have d2 : wS6 st (wS5 st b) 2 = wS5 st b 2 := pk_un (by decide)
  generalize wS5 st b 2 = P at *
  generalize wS6 st (wS5 st b) = d at *
  have dk : ∀ k, k ≠ 0 → k ≠ 2 → k ≠ 3 → k ≠ 11 → k ≠ 12 → k ≠ 13 → d k = w k := fun k x0 x2 x3 x y z => (hd k x2 x3).trans (hb k x0 x y z)
  have d0 : d 0 = m := (hd 0 (by decide) (by decide)).trans b0
  have q1 := dk 1 (by decide) (by decide) (by decide) (by decide) (by decide) (by decide)
  have q4 := dk 4 (by decide) (by decide) (by decide) (by decide) (by decide) (by decide)
  have q5 := dk 5 (by decide) (by decide) (by decide) (by decide) (by decide) (by decide)
  have q6 := dk 6 (by decide) (by decide) (by decide) (by decide) (by decide) (by decide)
  have q7 := dk 7 (by decide) (by decide) (by decide) (by decide) (by decide) (by decide)
  have q8 := dk 8 (by decide) (by decide) (by decide) (by decide) (by decide) (by decide)
  have q9 := dk 9 (by decide) (by decide) (by decide) (by decide) (by decide) (by decide)
  have q10 := dk 10 (by decide) (by decide) (by decide) (by decide) (by decide) (by decide)
  have q15 := dk 15 (by decide) (by decide) (by decide) (by decide) (by decide) (by decide)
  obtain ⟨D, G, D1, D2, hG, hV⟩ := speed_i (d := d) (by rw [q1]; exact r1) (by rw [d2]; exact c2) d3 (by rw [q4]; exact r4) (by rw [q5]; exact r5) (by rw [q6]; exact r6) (by rw [q8]; exact r8)
  rw [q1] at hG hV
  rw [d2] at D2
  unfold wEnd
  have f1 : wS8 (wError d) (wS7 (wError d) d) 1 = wS7 (wError d) d 1 := pk_un (by decide)
  have fk : ∀ k, k ≠ 1 → k ≠ 14 → wS8 (wError d) (wS7 (wError d) d) k = d k := fun k x y => (pk_un y).trans (pk_un x)
  generalize wS7 (wError d) d 1 = V at *
  generalize wS8 (wError d) (wS7 (wError d) d) = g at *
  have tn := wTurn_rng (lim := st 4) (w := g) s4 (by rw [fk 6 (by decide) (by decide), q6]; exact r6) (by rw [fk 7 (by decide) (by decide), q7]; exact r7) (by rw [fk 15 (by decide) (by decide), q15]; exact r15)
  obtain ⟨tk, t6, t7, t15⟩ := tn
  generalize wTurn (st 4) g = h at *
  have gk : ∀ k, k ≠ 1 → k ≠ 6 → k ≠ 7 → k ≠ 14 → k ≠ 15 → h k = d k := fun k x1 x6 x7 x14 x15 => (tk k x6 x7 x15).trans (fk k x1 x14)
  have g1 : h 1 = V := (tk 1 (by decide) (by decide) (by decide)).trans f1
  have g0 : h 0 = m := (gk 0 (by decide) (by decide) (by decide) (by decide) (by decide)).trans d0
  have g2 : h 2 = P := (gk 2 (by decide) (by decide) (by decide) (by decide) (by decide)).trans d2
  have g3 : h 3 = d 3 := gk 3 (by decide) (by decide) (by decide) (by decide) (by decide)
  have g4 : h 4 = w 4 := (gk 4 (by decide) (by decide) (by decide) (by decide) (by decide)).trans q4
  have g5 : h 5 = w 5 := (gk 5 (by decide) (by decide) (by decide) (by decide) (by decide)).trans q5
  have g8 : h 8 = w 8 := (gk 8 (by decide) (by decide) (by decide) (by decide) (by decide)).trans q8
  have g9 : h 9 = w 9 := (gk 9 (by decide) (by decide) (by decide) (by decide) (by decide)).trans q9
  have g10 : h 10 = w 10 := (gk 10 (by decide) (by decide) (by decide) (by decide) (by decide)).trans q10
  have gh : ∀ k, 16 ≤ k → h k = w k := fun k x => (gk k (by omega) (by omega) (by omega) (by omega) (by omega)).trans (dk k (by omega) (by omega) (by omega) (by omega) (by omega) (by omega))
  obtain ⟨n1, n2, n3, n4, n5, n6⟩ := pot_num (s := (w 1).toInt) (p := (w 2).toInt) (t := (d 3).toInt) (p' := P.toInt) (s' := V.toInt) (D := D) (G := G) (m := 0) (o := 0) r1.1 r1.2 r2 c2 d3 D1 D2 hG hV
  obtain ⟨o1, o2, o3⟩ := hp
  have s12 := hs.2.1.2
  have s11 := hs.2.1.1
  have pot : (m = 0 → 36 * V.toInt + 5 * ((90 - P.toInt) * (90 - P.toInt)) ≤ 35280) ∧ (¬ m = 0 → 72 * V.toInt + 5 * ((90 - P.toInt) * (90 - P.toInt)) ≤ 71770) ∧ (m = 5 → 6 ≤ P.toInt ∨ 84 ≤ 2 * V.toInt + 15 * P.toInt) := by
    rcases tr with ⟨t0, t1⟩ | ⟨t0, t1⟩ | ⟨t0, t1, t2⟩ | ⟨t0, t1, t2, t3⟩ | ⟨t0, t1, t2⟩
    · rcases t1 with t1 | t1
      · exact ⟨fun _ => n1 (o1 t0) (pi.1 t1), fun x => absurd t1 x, fun x => by rw [t1] at x; exact absurd x (by decide)⟩
      · exact ⟨fun x => by rw [t1] at x; exact absurd x (by decide), fun _ => n2 (o1 t0) (pi.2.1 t1), fun x => by rw [t1] at x; exact absurd x (by decide)⟩
    · have u := pi.2.2 t1
      refine ⟨fun x => by rw [t1] at x; exact absurd x (by decide), fun _ => n4 (o2 (by rw [t0]; decide)) u, fun _ => ?_⟩
      rcases Int.lt_or_le P.toInt 6 with x | x
      · rcases u with u | u
        · rcases o3 t0 with y | y
          · omega
          · exact Or.inr (n6 y (by omega) u)
        · omega
      · exact Or.inl x
    · have u := pi.2.2 t2
      rw [i_le] at t1
      refine ⟨fun x => by rw [t2] at x; exact absurd x (by decide), fun _ => n4 (o2 t0.1) u, fun _ => ?_⟩
      rcases Int.lt_or_le P.toInt 6 with x | x
      · rcases u with u | u
        · exact Or.inr (n5 (by omega) (by omega) u)
        · omega
      · exact Or.inl x
    · refine ⟨fun _ => n1 ?_ (pi.1 t1), fun x => absurd t1 x, fun x => by rw [t1] at x; exact absurd x (by decide)⟩
      have l90 : (90 : Int32).toInt = 90 := rfl
      rw [t2, t3, i_z, l90]
      decide
    · rw [i_le] at t1
      refine ⟨fun x => ?_, fun _ => n3 (by omega), fun x => ?_⟩
      · rcases t2 with y | y | y | y <;> (rw [y] at x; exact absurd x (by decide))
      · rcases t2 with y | y | y | y <;> (rw [y] at x; exact absurd x (by decide))
  have sqn : 0 ≤ (90 - P.toInt) * (90 - P.toInt) := Int.mul_nonneg (by have := c2.2; omega) (by have := c2.2; omega)
  have V0 : 0 ≤ V.toInt := by
    rw [hV]
    split <;> omega
  have V9 : V.toInt ≤ 999 := by
    by_cases x : m = 0
    · have := pot.1 x; omega
    · have := pot.2.1 x; omega
  refine ⟨?_, ?_, gh, g0, g4, g5, g8, g9, g10⟩
  · unfold wRng
    rw [g0, g1, g2, g3, g4, g5, g8, g9, g10]
    exact ⟨hm, ⟨V0, V9⟩, c2, d3, r4, r5, t6, t7, r8, r9, r10, t15⟩
  · unfold wPot
    rw [g0, g1, g2]
    exact pot
end
section
/-! The two objects as they are made. -/
def hLam : List Nat := [9, 5, 6, 10080, 3, 5, 0, 8, 7, 10040, 1, 30006, 0, 8, 7, 10040, 0, 8, 7, 10040, 0, 8, 7, 10040, 0, 8, 7, 10040, 0, 8, 7, 10040, 0, 8, 7, 10040, 30002, 0, 8, 7, 10040, 0, 8, 7, 10040, 20002, 4, 10006, 10006, 10006, 10006, 2, 10040, 10040, 10040, 10040, 8, 10, 10059, 10059, 10354, 10118, 20002, 10006, 10080, 10006, 10040, 10040, 10040, 11000, 10018, 10006]
def hRvT : List (Nat × Nat × Nat × Nat) := [(0, 0, 5, 1), (0, 1, 6, 2), (0, 2, 3, 4), (0, 3, 0, 6), (0, 4, 1, 10), (0, 5, 30002, 36), (0, 6, 20002, 45), (0, 7, 4, 46), (0, 8, 2, 51), (0, 9, 8, 56), (2, 0, 10080, 3), (4, 0, 5, 5), (6, 0, 8, 7), (6, 1, 7, 8), (8, 0, 10040, 9), (10, 0, 30006, 11), (11, 0, 0, 12), (11, 1, 0, 16), (11, 2, 0, 20), (11, 3, 0, 24), (11, 4, 0, 28), (11, 5, 0, 32), (12, 0, 8, 13), (12, 1, 7, 14), (14, 0, 10040, 15), (16, 0, 8, 17), (16, 1, 7, 18), (18, 0, 10040, 19), (20, 0, 8, 21), (20, 1, 7, 22), (22, 0, 10040, 23), (24, 0, 8, 25), (24, 1, 7, 26), (26, 0, 10040, 27), (28, 0, 8, 29), (28, 1, 7, 30), (30, 0, 10040, 31), (32, 0, 8, 33), (32, 1, 7, 34), (34, 0, 10040, 35), (36, 0, 0, 37), (36, 1, 0, 41), (37, 0, 8, 38), (37, 1, 7, 39), (39, 0, 10040, 40), (41, 0, 8, 42), (41, 1, 7, 43), (43, 0, 10040, 44), (46, 0, 10006, 47), (46, 1, 10006, 48), (46, 2, 10006, 49), (46, 3, 10006, 50), (51, 0, 10040, 52), (51, 2, 10040, 53), (51, 4, 10040, 54), (51, 5, 10040, 55), (57, 0, 10059, 58), (57, 1, 10059, 59), (57, 2, 10354, 60), (57, 4, 10118, 61), (57, 5, 20002, 62), (57, 6, 10006, 63), (57, 7, 10080, 64), (57, 14, 10006, 65), (57, 16, 10040, 66), (57, 17, 10040, 67), (57, 19, 10040, 68), (57, 21, 11000, 69), (57, 23, 10018, 70), (57, 25, 10006, 71)]
def hIvT : List (Nat × Nat × Int32) := [(1, 0, 100), (1, 1, 130), (1, 2, 4), (1, 3, 30), (1, 4, 72), (1, 5, 3), (63, 0, 100), (63, 1, 130), (63, 2, 4), (63, 3, 30), (63, 4, 72), (63, 5, 3), (2, 1, 0), (57, 3, 0), (57, 8, 0), (57, 24, 0), (7, 0, 0), (7, 1, 0), (7, 2, 90), (7, 3, 0), (7, 4, 0), (7, 5, 0), (7, 6, 0), (7, 7, 0), (7, 8, 0), (7, 9, 1), (7, 10, 1), (7, 11, 0), (7, 12, 0), (7, 13, 0), (7, 14, 0), (7, 15, 0), (58, 0, 0), (58, 1, 0), (58, 2, 90), (58, 3, 0), (58, 4, 0), (58, 5, 0), (58, 6, 0), (58, 7, 0), (58, 8, 0), (58, 9, 1), (58, 10, 1), (58, 11, 0), (58, 12, 0), (58, 13, 0), (58, 14, 0), (58, 15, 0), (58, 16, 0), (58, 17, 0), (58, 18, 0), (58, 19, 0), (58, 20, 0), (58, 21, 0), (58, 22, 0), (58, 23, 0), (58, 24, 0), (58, 25, 0), (58, 26, 0), (58, 27, 0), (58, 28, 0), (58, 29, 0), (58, 30, 0), (58, 31, 0), (58, 32, 0), (58, 33, 0), (58, 34, 0), (58, 35, 0), (58, 36, 0), (58, 37, 0), (58, 38, 0), (58, 39, 0), (58, 40, 0), (58, 41, 0), (58, 42, 0), (58, 43, 0), (58, 44, 0), (58, 45, 0), (58, 46, 0), (58, 47, 0), (58, 48, 0), (58, 49, 0), (58, 50, 0), (58, 51, 0), (58, 52, 0), (58, 53, 0), (58, 54, 0), (58, 55, 0), (58, 56, 0), (58, 57, 0), (58, 58, 0), (8, 1, 0), (8, 2, 0), (6, 2, 0), (6, 3, 0), (10, 1, 0), (10, 2, 0), (45, 0, 0), (45, 1, 0), (62, 0, 0), (62, 1, 0), (46, 4, 0)]
def hI0 : hS := ([9], fun _ _ => 0, fun _ _ => none)
def hChk0 (S : hS) : Bool := decide (S.1 = hLam) && hRvT.all (fun q => decide (S.2.2 q.1 q.2.1 = some (q.2.2.1, q.2.2.2))) && hIvT.all (fun q => decide (S.2.1 q.1 q.2.1 = q.2.2))
theorem hMade : (match hRun 1500 (hcod 142) 0 (hInit (hcod 142).1 [.inr (some (9, 0))]) [] hI0 with
  | some (none, S1) => (match hRun 1500 (hcod 63) 0 (hInit (hcod 63).1 [.inr (some (10, 57))]) [] (hNew S1 10) with
    | some (none, S2) => hChk0 S2 && decide (S1.1.length = 57)
    | _ => false)
  | _ => false) = true := by decide +kernel
theorem hMade2 : ∃ S1 S2 : hS, Ev 142 [.inr (some (9, 0))] hI0 (none, S1) ∧ S1.1.length = 57 ∧ Ev 63 [.inr (some (10, 57))] (hNew S1 10) (none, S2) ∧ S2.1 = hLam ∧ (∀ q ∈ hRvT, S2.2.2 q.1 q.2.1 = some (q.2.2.1, q.2.2.2)) ∧ (∀ q ∈ hIvT, S2.2.1 q.1 q.2.1 = q.2.2) := by
  have h := hMade
  split at h
  · rename_i S1 e1
    split at h
    · rename_i S2 e2
      simp only [hChk0, Bool.and_eq_true, decide_eq_true_eq, List.all_eq_true] at h
      exact ⟨S1, S2, ⟨1500, e1⟩, h.2, ⟨1500, e2⟩, h.1.1.1, h.1.1.2, h.1.2⟩
    · cases h
  · cases h
end
section
/-! What holds between the class's places and the model's. -/
def hLay (S : hS) : Prop := S.1 = hLam ∧ ∀ q ∈ hRvT, S.2.2 q.1 q.2.1 = some (q.2.2.1, q.2.2.2)
theorem hLay.fr {S S' : hS} {P : Nat → Prop} (h : hLay S) (f : hFr S S' P) : hLay S' := ⟨f.1.trans h.1, fun q hq => by rw [f.2.1]; exact h.2 q hq⟩
theorem rv_0_0 {S : hS} (h : hLay S) : S.2.2 0 0 = some (5, 1) := h.2 (0, 0, 5, 1) (by decide +kernel)
theorem rv_0_1 {S : hS} (h : hLay S) : S.2.2 0 1 = some (6, 2) := h.2 (0, 1, 6, 2) (by decide +kernel)
theorem rv_0_2 {S : hS} (h : hLay S) : S.2.2 0 2 = some (3, 4) := h.2 (0, 2, 3, 4) (by decide +kernel)
theorem rv_0_3 {S : hS} (h : hLay S) : S.2.2 0 3 = some (0, 6) := h.2 (0, 3, 0, 6) (by decide +kernel)
theorem rv_0_4 {S : hS} (h : hLay S) : S.2.2 0 4 = some (1, 10) := h.2 (0, 4, 1, 10) (by decide +kernel)
theorem rv_0_5 {S : hS} (h : hLay S) : S.2.2 0 5 = some (30002, 36) := h.2 (0, 5, 30002, 36) (by decide +kernel)
theorem rv_0_6 {S : hS} (h : hLay S) : S.2.2 0 6 = some (20002, 45) := h.2 (0, 6, 20002, 45) (by decide +kernel)
theorem rv_0_7 {S : hS} (h : hLay S) : S.2.2 0 7 = some (4, 46) := h.2 (0, 7, 4, 46) (by decide +kernel)
theorem rv_0_8 {S : hS} (h : hLay S) : S.2.2 0 8 = some (2, 51) := h.2 (0, 8, 2, 51) (by decide +kernel)
theorem rv_0_9 {S : hS} (h : hLay S) : S.2.2 0 9 = some (8, 56) := h.2 (0, 9, 8, 56) (by decide +kernel)
theorem rv_2_0 {S : hS} (h : hLay S) : S.2.2 2 0 = some (10080, 3) := h.2 (2, 0, 10080, 3) (by decide +kernel)
theorem rv_4_0 {S : hS} (h : hLay S) : S.2.2 4 0 = some (5, 5) := h.2 (4, 0, 5, 5) (by decide +kernel)
theorem rv_6_0 {S : hS} (h : hLay S) : S.2.2 6 0 = some (8, 7) := h.2 (6, 0, 8, 7) (by decide +kernel)
theorem rv_6_1 {S : hS} (h : hLay S) : S.2.2 6 1 = some (7, 8) := h.2 (6, 1, 7, 8) (by decide +kernel)
theorem rv_8_0 {S : hS} (h : hLay S) : S.2.2 8 0 = some (10040, 9) := h.2 (8, 0, 10040, 9) (by decide +kernel)
theorem rv_10_0 {S : hS} (h : hLay S) : S.2.2 10 0 = some (30006, 11) := h.2 (10, 0, 30006, 11) (by decide +kernel)
theorem rv_11_0 {S : hS} (h : hLay S) : S.2.2 11 0 = some (0, 12) := h.2 (11, 0, 0, 12) (by decide +kernel)
theorem rv_11_1 {S : hS} (h : hLay S) : S.2.2 11 1 = some (0, 16) := h.2 (11, 1, 0, 16) (by decide +kernel)
theorem rv_11_2 {S : hS} (h : hLay S) : S.2.2 11 2 = some (0, 20) := h.2 (11, 2, 0, 20) (by decide +kernel)
theorem rv_11_3 {S : hS} (h : hLay S) : S.2.2 11 3 = some (0, 24) := h.2 (11, 3, 0, 24) (by decide +kernel)
theorem rv_11_4 {S : hS} (h : hLay S) : S.2.2 11 4 = some (0, 28) := h.2 (11, 4, 0, 28) (by decide +kernel)
theorem rv_11_5 {S : hS} (h : hLay S) : S.2.2 11 5 = some (0, 32) := h.2 (11, 5, 0, 32) (by decide +kernel)
theorem rv_12_0 {S : hS} (h : hLay S) : S.2.2 12 0 = some (8, 13) := h.2 (12, 0, 8, 13) (by decide +kernel)
theorem rv_12_1 {S : hS} (h : hLay S) : S.2.2 12 1 = some (7, 14) := h.2 (12, 1, 7, 14) (by decide +kernel)
theorem rv_14_0 {S : hS} (h : hLay S) : S.2.2 14 0 = some (10040, 15) := h.2 (14, 0, 10040, 15) (by decide +kernel)
theorem rv_16_0 {S : hS} (h : hLay S) : S.2.2 16 0 = some (8, 17) := h.2 (16, 0, 8, 17) (by decide +kernel)
theorem rv_16_1 {S : hS} (h : hLay S) : S.2.2 16 1 = some (7, 18) := h.2 (16, 1, 7, 18) (by decide +kernel)
theorem rv_18_0 {S : hS} (h : hLay S) : S.2.2 18 0 = some (10040, 19) := h.2 (18, 0, 10040, 19) (by decide +kernel)
theorem rv_20_0 {S : hS} (h : hLay S) : S.2.2 20 0 = some (8, 21) := h.2 (20, 0, 8, 21) (by decide +kernel)
theorem rv_20_1 {S : hS} (h : hLay S) : S.2.2 20 1 = some (7, 22) := h.2 (20, 1, 7, 22) (by decide +kernel)
theorem rv_22_0 {S : hS} (h : hLay S) : S.2.2 22 0 = some (10040, 23) := h.2 (22, 0, 10040, 23) (by decide +kernel)
theorem rv_24_0 {S : hS} (h : hLay S) : S.2.2 24 0 = some (8, 25) := h.2 (24, 0, 8, 25) (by decide +kernel)
theorem rv_24_1 {S : hS} (h : hLay S) : S.2.2 24 1 = some (7, 26) := h.2 (24, 1, 7, 26) (by decide +kernel)
theorem rv_26_0 {S : hS} (h : hLay S) : S.2.2 26 0 = some (10040, 27) := h.2 (26, 0, 10040, 27) (by decide +kernel)
theorem rv_28_0 {S : hS} (h : hLay S) : S.2.2 28 0 = some (8, 29) := h.2 (28, 0, 8, 29) (by decide +kernel)
theorem rv_28_1 {S : hS} (h : hLay S) : S.2.2 28 1 = some (7, 30) := h.2 (28, 1, 7, 30) (by decide +kernel)
theorem rv_30_0 {S : hS} (h : hLay S) : S.2.2 30 0 = some (10040, 31) := h.2 (30, 0, 10040, 31) (by decide +kernel)
theorem rv_32_0 {S : hS} (h : hLay S) : S.2.2 32 0 = some (8, 33) := h.2 (32, 0, 8, 33) (by decide +kernel)
theorem rv_32_1 {S : hS} (h : hLay S) : S.2.2 32 1 = some (7, 34) := h.2 (32, 1, 7, 34) (by decide +kernel)
theorem rv_34_0 {S : hS} (h : hLay S) : S.2.2 34 0 = some (10040, 35) := h.2 (34, 0, 10040, 35) (by decide +kernel)
theorem rv_36_0 {S : hS} (h : hLay S) : S.2.2 36 0 = some (0, 37) := h.2 (36, 0, 0, 37) (by decide +kernel)
theorem rv_36_1 {S : hS} (h : hLay S) : S.2.2 36 1 = some (0, 41) := h.2 (36, 1, 0, 41) (by decide +kernel)
theorem rv_37_0 {S : hS} (h : hLay S) : S.2.2 37 0 = some (8, 38) := h.2 (37, 0, 8, 38) (by decide +kernel)
theorem rv_37_1 {S : hS} (h : hLay S) : S.2.2 37 1 = some (7, 39) := h.2 (37, 1, 7, 39) (by decide +kernel)
theorem rv_39_0 {S : hS} (h : hLay S) : S.2.2 39 0 = some (10040, 40) := h.2 (39, 0, 10040, 40) (by decide +kernel)
theorem rv_41_0 {S : hS} (h : hLay S) : S.2.2 41 0 = some (8, 42) := h.2 (41, 0, 8, 42) (by decide +kernel)
theorem rv_41_1 {S : hS} (h : hLay S) : S.2.2 41 1 = some (7, 43) := h.2 (41, 1, 7, 43) (by decide +kernel)
theorem rv_43_0 {S : hS} (h : hLay S) : S.2.2 43 0 = some (10040, 44) := h.2 (43, 0, 10040, 44) (by decide +kernel)
theorem rv_46_0 {S : hS} (h : hLay S) : S.2.2 46 0 = some (10006, 47) := h.2 (46, 0, 10006, 47) (by decide +kernel)
theorem rv_46_1 {S : hS} (h : hLay S) : S.2.2 46 1 = some (10006, 48) := h.2 (46, 1, 10006, 48) (by decide +kernel)
theorem rv_46_2 {S : hS} (h : hLay S) : S.2.2 46 2 = some (10006, 49) := h.2 (46, 2, 10006, 49) (by decide +kernel)
theorem rv_46_3 {S : hS} (h : hLay S) : S.2.2 46 3 = some (10006, 50) := h.2 (46, 3, 10006, 50) (by decide +kernel)
theorem rv_51_0 {S : hS} (h : hLay S) : S.2.2 51 0 = some (10040, 52) := h.2 (51, 0, 10040, 52) (by decide +kernel)
theorem rv_51_2 {S : hS} (h : hLay S) : S.2.2 51 2 = some (10040, 53) := h.2 (51, 2, 10040, 53) (by decide +kernel)
theorem rv_51_4 {S : hS} (h : hLay S) : S.2.2 51 4 = some (10040, 54) := h.2 (51, 4, 10040, 54) (by decide +kernel)
theorem rv_51_5 {S : hS} (h : hLay S) : S.2.2 51 5 = some (10040, 55) := h.2 (51, 5, 10040, 55) (by decide +kernel)
theorem rv_57_0 {S : hS} (h : hLay S) : S.2.2 57 0 = some (10059, 58) := h.2 (57, 0, 10059, 58) (by decide +kernel)
theorem rv_57_1 {S : hS} (h : hLay S) : S.2.2 57 1 = some (10059, 59) := h.2 (57, 1, 10059, 59) (by decide +kernel)
theorem rv_57_2 {S : hS} (h : hLay S) : S.2.2 57 2 = some (10354, 60) := h.2 (57, 2, 10354, 60) (by decide +kernel)
theorem rv_57_4 {S : hS} (h : hLay S) : S.2.2 57 4 = some (10118, 61) := h.2 (57, 4, 10118, 61) (by decide +kernel)
theorem rv_57_5 {S : hS} (h : hLay S) : S.2.2 57 5 = some (20002, 62) := h.2 (57, 5, 20002, 62) (by decide +kernel)
theorem rv_57_6 {S : hS} (h : hLay S) : S.2.2 57 6 = some (10006, 63) := h.2 (57, 6, 10006, 63) (by decide +kernel)
theorem rv_57_7 {S : hS} (h : hLay S) : S.2.2 57 7 = some (10080, 64) := h.2 (57, 7, 10080, 64) (by decide +kernel)
theorem rv_57_14 {S : hS} (h : hLay S) : S.2.2 57 14 = some (10006, 65) := h.2 (57, 14, 10006, 65) (by decide +kernel)
theorem rv_57_16 {S : hS} (h : hLay S) : S.2.2 57 16 = some (10040, 66) := h.2 (57, 16, 10040, 66) (by decide +kernel)
theorem rv_57_17 {S : hS} (h : hLay S) : S.2.2 57 17 = some (10040, 67) := h.2 (57, 17, 10040, 67) (by decide +kernel)
theorem rv_57_19 {S : hS} (h : hLay S) : S.2.2 57 19 = some (10040, 68) := h.2 (57, 19, 10040, 68) (by decide +kernel)
theorem rv_57_21 {S : hS} (h : hLay S) : S.2.2 57 21 = some (11000, 69) := h.2 (57, 21, 11000, 69) (by decide +kernel)
theorem rv_57_23 {S : hS} (h : hLay S) : S.2.2 57 23 = some (10018, 70) := h.2 (57, 23, 10018, 70) (by decide +kernel)
theorem rv_57_25 {S : hS} (h : hLay S) : S.2.2 57 25 = some (10006, 71) := h.2 (57, 25, 10006, 71) (by decide +kernel)
theorem mom_6 {S : hS} (h : hLay S) : isMom S 6 := ⟨rv_6_0 h, rv_6_1 h, rv_8_0 h⟩
theorem mom_12 {S : hS} (h : hLay S) : isMom S 12 := ⟨rv_12_0 h, rv_12_1 h, rv_14_0 h⟩
theorem mom_16 {S : hS} (h : hLay S) : isMom S 16 := ⟨rv_16_0 h, rv_16_1 h, rv_18_0 h⟩
theorem mom_20 {S : hS} (h : hLay S) : isMom S 20 := ⟨rv_20_0 h, rv_20_1 h, rv_22_0 h⟩
theorem mom_24 {S : hS} (h : hLay S) : isMom S 24 := ⟨rv_24_0 h, rv_24_1 h, rv_26_0 h⟩
theorem mom_28 {S : hS} (h : hLay S) : isMom S 28 := ⟨rv_28_0 h, rv_28_1 h, rv_30_0 h⟩
theorem mom_32 {S : hS} (h : hLay S) : isMom S 32 := ⟨rv_32_0 h, rv_32_1 h, rv_34_0 h⟩
theorem mom_37 {S : hS} (h : hLay S) : isMom S 37 := ⟨rv_37_0 h, rv_37_1 h, rv_39_0 h⟩
theorem mom_41 {S : hS} (h : hLay S) : isMom S 41 := ⟨rv_41_0 h, rv_41_1 h, rv_43_0 h⟩
theorem lay_past {S : hS} (h : hLay S) : isPast S := by
  refine ⟨rv_10_0 h, fun i hi => ?_⟩
  match i, hi with
  | 0, _ => exact ⟨rv_11_0 h, mom_12 h⟩
  | 1, _ => exact ⟨rv_11_1 h, mom_16 h⟩
  | 2, _ => exact ⟨rv_11_2 h, mom_20 h⟩
  | 3, _ => exact ⟨rv_11_3 h, mom_24 h⟩
  | 4, _ => exact ⟨rv_11_4 h, mom_28 h⟩
  | 5, _ => exact ⟨rv_11_5 h, mom_32 h⟩
  | n + 6, h => exact absurd h (by omega)
/-- a moment of the class (its four rows) is a row of the model's -/
def mRel (m w t a u : Nat → Int32) : Prop := (∀ j, j < 16 → w j = u j) ∧ m 2 = u 16 ∧ m 3 = u 17 ∧ t 2 = u 18 ∧ ∃ n z, n < 40 ∧ z ≤ 40 ∧ t 1 = nI n ∧ u 18 = nI z ∧ ∀ k, k < z → a ((n + 39 - k) % 40) = u (19 + k)
/-- what is known of a row -/
def mInv (st u : Nat → Int32) : Prop := wRng st u ∧ wPot u ∧ bt (u 16) 0 9999 ∧ bt (u 18) 0 40 ∧ ∀ k, k < 40 → bt (u (19 + k)) 0 999
def rSet (a b : Nat → Int32) : Prop := okSet b ∧ ∀ j, j < 6 → a j = b j
def rText (len typed : Int32) (a b : Nat → Int32) : Prop := ∃ n, n ≤ 80 ∧ len = nI n ∧ typed = nI n ∧ ∀ k, k < n → a k = b k ∧ bt (b k) 0 255
def rMom (iv : Nat → Nat → Int32) (c : Nat) (u : Nat → Int32) : Prop := mRel (iv c) (iv (c + 1)) (iv (c + 2)) (iv (c + 3)) u ∧ mInv (iv 63) u
def rPast (iv : Nat → Nat → Int32) (undos : Int32) : Prop := ∃ p z, p < 6 ∧ z ≤ 6 ∧ iv 10 1 = nI p ∧ iv 10 2 = nI z ∧ undos = nI z ∧ ∀ i, i < z → rMom iv (12 + 4 * ((p + 5 - i) % 6)) (fun j => iv 60 (59 * (z - 1 - i) + j))
def rImg (iv : Nat → Nat → Int32) : Prop := ∀ k, k < 2 → isB (iv 45 k) ∧ iv 62 k = iv 45 k ∧ (iv 45 k = 1 → rMom iv (37 + 4 * k) (fun j => iv 61 (59 * k + j)))
def rSeen (size sights : Int32) (a b c d : Nat → Int32) : Prop := ∃ z, z ≤ 6 ∧ size = nI z ∧ sights = nI z ∧ ∀ i, i < z → (a i = d (3 * i) ∧ b i = d (3 * i + 1) ∧ c i = d (3 * i + 2)) ∧ bt (d (3 * i)) 1 20 ∧ bt (d (3 * i + 1)) 0 40 ∧ bt (d (3 * i + 2)) 0 999
def Rel (S : hS) : Prop := hLay S ∧ rSet (S.2.1 1) (S.2.1 63) ∧ rText (S.2.1 2 1) (S.2.1 57 8) (S.2.1 3) (S.2.1 64) ∧ rMom S.2.1 6 (S.2.1 58) ∧ rPast S.2.1 (S.2.1 57 3) ∧ rImg S.2.1 ∧ rSeen (S.2.1 46 4) (S.2.1 57 24) (S.2.1 47) (S.2.1 48) (S.2.1 49) (S.2.1 70)
theorem rMom.congr {iv iv' : Nat → Nat → Int32} {c : Nat} {u u' : Nat → Int32} (h : rMom iv c u) (h0 : iv' c = iv c) (h1 : iv' (c + 1) = iv (c + 1)) (h2 : iv' (c + 2) = iv (c + 2)) (h3 : iv' (c + 3) = iv (c + 3)) (h63 : iv' 63 = iv 63) (hu : u' = u) : rMom iv' c u' := by
  unfold rMom at *
  rw [h0, h1, h2, h3, h63, hu]
  exact h
theorem rPast.congr {iv iv' : Nat → Nat → Int32} {x : Int32} (h : rPast iv x) (hp : ∀ p, 10 ≤ p → p < 36 → iv' p = iv p) (h60 : iv' 60 = iv 60) (h63 : iv' 63 = iv 63) : rPast iv' x := by
  obtain ⟨p, z, a, b, c, d, e, f⟩ := h
  refine ⟨p, z, a, b, by rw [hp 10 (by omega) (by omega)]; exact c, by rw [hp 10 (by omega) (by omega)]; exact d, e, fun i hi => ?_⟩
  have k := f i hi
  have l : (p + 5 - i) % 6 < 6 := Nat.mod_lt _ (by decide)
  exact k.congr (hp _ (by omega) (by omega)) (hp _ (by omega) (by omega)) (hp _ (by omega) (by omega)) (hp _ (by omega) (by omega)) h63 (by rw [h60])
theorem rImg.congr {iv iv' : Nat → Nat → Int32} (h : rImg iv) (hp : ∀ p, 37 ≤ p → p < 46 → iv' p = iv p) (h61 : iv' 61 = iv 61) (h62 : iv' 62 = iv 62) (h63 : iv' 63 = iv 63) : rImg iv' := by
  intro k hk
  obtain ⟨a, b, c⟩ := h k hk
  rw [hp 45 (by omega) (by omega), h62]
  exact ⟨a, b, fun x => (c x).congr (hp _ (by omega) (by omega)) (hp _ (by omega) (by omega)) (hp _ (by omega) (by omega)) (hp _ (by omega) (by omega)) h63 (by rw [h61])⟩
/-- what two calls answer alike -/
def Alk (y1 y2 : Nat) (as : List hV) (S : hS) : Prop := ∃ (r : Int32) (S1 S2 : hS), Ev y1 (.inr (some (9, 0)) :: as) S (some r, S1) ∧ Ev y2 (.inr (some (10, 57)) :: as) S1 (some r, S2) ∧ Rel S2
def made_w (j : Nat) : Int32 := if j = 2 then 90 else if j = 9 then 1 else if j = 10 then 1 else 0
theorem made_t1 : ∀ j, j < 16 → (7, j, made_w j) ∈ hIvT ∧ (58, j, made_w j) ∈ hIvT := by decide +kernel
theorem made_t2 : ∀ k, k < 40 → (58, 19 + k, (0 : Int32)) ∈ hIvT := by decide +kernel
def made_s (j : Nat) : Int32 := if j = 0 then 100 else if j = 1 then 130 else if j = 2 then 4 else if j = 3 then 30 else if j = 4 then 72 else 3
theorem made_t3 : ∀ j, j < 6 → (1, j, made_s j) ∈ hIvT ∧ (63, j, made_s j) ∈ hIvT := by decide +kernel
theorem made_set : okSet made_s := ⟨⟨by decide, by decide⟩, ⟨by decide, by decide⟩, ⟨by decide, by decide⟩, ⟨by decide, by decide⟩, ⟨by decide, by decide⟩, ⟨by decide, by decide⟩⟩
theorem okSet.congr {a b : Nat → Int32} (h : okSet a) (e : ∀ j, j < 6 → b j = a j) : okSet b := by
  unfold okSet at *
  rw [e 0 (by decide), e 1 (by decide), e 2 (by decide), e 3 (by decide), e 4 (by decide), e 5 (by decide)]
  exact h
theorem wRng.congr {st st' u v : Nat → Int32} (h : wRng st u) (e4 : st' 4 = st 4) (e : ∀ j, j < 16 → v j = u j) : wRng st' v := by
  unfold wRng at *
  rw [e4, e 0 (by decide), e 1 (by decide), e 2 (by decide), e 3 (by decide), e 4 (by decide), e 5 (by decide), e 6 (by decide), e 7 (by decide), e 8 (by decide), e 9 (by decide), e 10 (by decide), e 15 (by decide)]
  exact h
theorem wPot.congr {u v : Nat → Int32} (h : wPot u) (e0 : v 0 = u 0) (e1 : v 1 = u 1) (e2 : v 2 = u 2) : wPot v := by
  unfold wPot at *
  rw [e0, e1, e2]
  exact h
theorem made_rng : wRng made_s made_w := by
  refine ⟨Or.inl rfl, ⟨by decide, by decide⟩, ⟨by decide, by decide⟩, ⟨by decide, by decide⟩, ⟨by decide, by decide⟩, ⟨by decide, by decide⟩, ⟨by decide, by decide⟩, ⟨by decide, by decide⟩, ⟨by decide, by decide⟩, Or.inr rfl, Or.inr rfl, Or.inl rfl⟩
theorem made_pot : wPot made_w := by
  refine ⟨fun _ => by decide, fun h => absurd rfl h, fun h => absurd h (by decide)⟩
theorem rel_made {S : hS} (h1 : S.1 = hLam) (h2 : ∀ q ∈ hRvT, S.2.2 q.1 q.2.1 = some (q.2.2.1, q.2.2.2)) (h3 : ∀ q ∈ hIvT, S.2.1 q.1 q.2.1 = q.2.2) : Rel S := by
  have g : ∀ (c j : Nat) (x : Int32), (c, j, x) ∈ hIvT → S.2.1 c j = x := fun c j x h => h3 (c, j, x) h
  have e63 : ∀ j, j < 6 → S.2.1 63 j = made_s j := fun j hj => g _ _ _ (made_t3 j hj).2
  have e58 : ∀ j, j < 16 → S.2.1 58 j = made_w j := fun j hj => g _ _ _ (made_t1 j hj).2
  have z : ∀ (c j : Nat), (c, j, (0 : Int32)) ∈ hIvT → S.2.1 c j = nI 0 := fun c j h => g c j 0 h
  refine ⟨⟨h1, h2⟩, ⟨made_set.congr e63, fun j hj => ?_⟩, ⟨0, by decide, z 2 1 (by decide +kernel), z 57 8 (by decide +kernel), fun k h => absurd h (by omega)⟩, ⟨⟨fun j hj => ?_, ?_, ?_, ?_, 0, 0, by decide, by decide, z 8 1 (by decide +kernel), z 58 18 (by decide +kernel), fun k h => absurd h (by omega)⟩, ?_⟩, ⟨0, 0, by decide, by decide, z 10 1 (by decide +kernel), z 10 2 (by decide +kernel), z 57 3 (by decide +kernel), fun k h => absurd h (by omega)⟩, ?_, ⟨0, by decide, z 46 4 (by decide +kernel), z 57 24 (by decide +kernel), fun k h => absurd h (by omega)⟩⟩
  · rw [e63 j hj, g _ _ _ (made_t3 j hj).1]
  · show S.2.1 7 j = S.2.1 58 j
    rw [e58 j hj, g _ _ _ (made_t1 j hj).1]
  · rw [z 6 2 (by decide +kernel), z 58 16 (by decide +kernel)]
  · rw [z 6 3 (by decide +kernel), z 58 17 (by decide +kernel)]
  · show S.2.1 8 2 = S.2.1 58 18
    rw [z 8 2 (by decide +kernel), z 58 18 (by decide +kernel)]
  · refine ⟨made_rng.congr (e63 4 (by decide)) e58, made_pot.congr (e58 0 (by decide)) (e58 1 (by decide)) (e58 2 (by decide)), ?_, ?_, fun k hk => ?_⟩
    · rw [g 58 16 0 (by decide +kernel)]; exact ⟨by decide, by decide⟩
    · rw [g 58 18 0 (by decide +kernel)]; exact ⟨by decide, by decide⟩
    · rw [g 58 (19 + k) 0 (made_t2 k hk)]; exact ⟨by decide, by decide⟩
  · intro k hk
    have e1 : S.2.1 45 k = 0 := by
      match k, hk with
      | 0, _ => exact g 45 0 0 (by decide +kernel)
      | 1, _ => exact g 45 1 0 (by decide +kernel)
      | n + 2, h => exact absurd h (by omega)
    have e2 : S.2.1 62 k = 0 := by
      match k, hk with
      | 0, _ => exact g 62 0 0 (by decide +kernel)
      | 1, _ => exact g 62 1 0 (by decide +kernel)
      | n + 2, h => exact absurd h (by omega)
    rw [e1, e2]
    exact ⟨Or.inl rfl, rfl, fun h => absurd h (by decide)⟩
end
section
/-! The small calls: type, clear, forget, sees, setting, count. -/
theorem rel_ts {S S2 : hS} (h : Rel S) (f : hFr S S2 (fun p => p = 2 ∨ p = 3 ∨ p = 64 ∨ p = 57 ∨ p = 46 ∨ p = 47 ∨ p = 48 ∨ p = 49 ∨ p = 70)) (u : S2.2.1 57 3 = S.2.1 57 3) (ht : rText (S2.2.1 2 1) (S2.2.1 57 8) (S2.2.1 3) (S2.2.1 64)) (hs : rSeen (S2.2.1 46 4) (S2.2.1 57 24) (S2.2.1 47) (S2.2.1 48) (S2.2.1 49) (S2.2.1 70)) : Rel S2 := by
  obtain ⟨a, b, -, d, e, g, -⟩ := h
  have k : ∀ p, ¬ (p = 2 ∨ p = 3 ∨ p = 64 ∨ p = 57 ∨ p = 46 ∨ p = 47 ∨ p = 48 ∨ p = 49 ∨ p = 70) → S2.2.1 p = S.2.1 p := f.2.2
  refine ⟨a.fr f, ?_, ht, ?_, ?_, ?_, hs⟩
  · rw [k 1 (by decide), k 63 (by decide)]; exact b
  · exact d.congr (k _ (by decide)) (k _ (by decide)) (k _ (by decide)) (k _ (by decide)) (k _ (by decide)) (k 58 (by decide))
  · rw [u]
    exact e.congr (fun p x y => k p (by omega)) (k _ (by decide)) (k _ (by decide))
  · exact g.congr (fun p x y => by
      by_cases hp : p = 46
      · omega
      · exact k p (by omega)) (k _ (by decide)) (k _ (by decide)) (k _ (by decide))
theorem a_clear {S : hS} (h : Rel S) : Alk 49 7 [] S := by
  have hL := h.1
  obtain ⟨n, h1, e1, e2, h3⟩ := h.2.2.1
  refine ⟨nI n, hPut S 2 1 0, hPut (hPut S 2 1 0) 57 8 0, ?_, ?_, ?_⟩
  · show Rn hc_X9_clear 0 [some (.inr (some (9, 0))), none] [] S _
    repeat' (first | refine r_getr rfl (rv_0_1 hL) ?_ | refine r_reti rfl ?_ rfl | refine r_step rfl rfl ?_ | with_reducible refine r_i_eq (fun c => ?_) (fun c => ?_) | with_reducible refine r_i_ne (fun c => ?_) (fun c => ?_) | with_reducible refine r_i_lt (fun c => ?_) (fun c => ?_) | with_reducible refine r_i_ge (fun c => ?_) (fun c => ?_) | with_reducible refine r_i_gt (fun c => ?_) (fun c => ?_) | with_reducible refine r_i_le (fun c => ?_) (fun c => ?_))
    exact e1
  · show Rn hc_X10_clear 0 [some (.inr (some (10, 57))), none] [] (hPut S 2 1 0) _
    repeat' (first | refine r_reti rfl ?_ rfl | refine r_step rfl rfl ?_ | with_reducible refine r_i_eq (fun c => ?_) (fun c => ?_) | with_reducible refine r_i_ne (fun c => ?_) (fun c => ?_) | with_reducible refine r_i_lt (fun c => ?_) (fun c => ?_) | with_reducible refine r_i_ge (fun c => ?_) (fun c => ?_) | with_reducible refine r_i_gt (fun c => ?_) (fun c => ?_) | with_reducible refine r_i_le (fun c => ?_) (fun c => ?_))
    rw [hPut_ne (by decide)]
    exact e2
  · refine rel_ts h ((hFr_put _ _ _ _ (Or.inl rfl)).trans (hFr_put _ _ _ _ (Or.inr (Or.inr (Or.inr (Or.inl rfl)))))) ?_ ?_ ?_
    · rw [hPut_at, pk_un (by decide), hPut_ne (by decide)]
    · refine ⟨0, by omega, ?_, ?_, fun k hk => absurd hk (by omega)⟩
      · rw [hPut_ne (by decide), hPut_at, pk_us]; rfl
      · rw [hPut_at, pk_us]; rfl
    · obtain ⟨z, k1, k2, k3, k4⟩ := h.2.2.2.2.2.2
      refine ⟨z, k1, ?_, ?_, ?_⟩
      · rw [hPut_ne (by decide), hPut_ne (by decide)]; exact k2
      · rw [hPut_at, pk_un (by decide), hPut_ne (by decide)]; exact k3
      · rw [hPut_ne (by decide), hPut_ne (by decide), hPut_ne (by decide), hPut_ne (by decide), hPut_ne (by decide), hPut_ne (by decide), hPut_ne (by decide), hPut_ne (by decide)]; exact k4
theorem a_forget {S : hS} (h : Rel S) : Alk 51 9 [] S := by
  have hL := h.1
  obtain ⟨z, k1, k2, k3, k4⟩ := h.2.2.2.2.2.2
  refine ⟨nI z, hPut S 46 4 0, hPut (hPut S 46 4 0) 57 24 0, ?_, ?_, ?_⟩
  · show Rn hc_X9_forget 0 [some (.inr (some (9, 0))), none] [] S _
    repeat' (first | refine r_getr rfl (rv_0_7 hL) ?_ | refine r_reti rfl ?_ rfl | refine r_step rfl rfl ?_ | with_reducible refine r_i_eq (fun c => ?_) (fun c => ?_) | with_reducible refine r_i_ne (fun c => ?_) (fun c => ?_) | with_reducible refine r_i_lt (fun c => ?_) (fun c => ?_) | with_reducible refine r_i_ge (fun c => ?_) (fun c => ?_) | with_reducible refine r_i_gt (fun c => ?_) (fun c => ?_) | with_reducible refine r_i_le (fun c => ?_) (fun c => ?_))
    exact k2
  · show Rn hc_X10_forget 0 [some (.inr (some (10, 57))), none] [] (hPut S 46 4 0) _
    repeat' (first | refine r_reti rfl ?_ rfl | refine r_step rfl rfl ?_ | with_reducible refine r_i_eq (fun c => ?_) (fun c => ?_) | with_reducible refine r_i_ne (fun c => ?_) (fun c => ?_) | with_reducible refine r_i_lt (fun c => ?_) (fun c => ?_) | with_reducible refine r_i_ge (fun c => ?_) (fun c => ?_) | with_reducible refine r_i_gt (fun c => ?_) (fun c => ?_) | with_reducible refine r_i_le (fun c => ?_) (fun c => ?_))
    rw [hPut_ne (by decide)]
    exact k3
  · refine rel_ts h ((hFr_put _ _ _ _ (Or.inr (Or.inr (Or.inr (Or.inr (Or.inl rfl)))))).trans (hFr_put _ _ _ _ (Or.inr (Or.inr (Or.inr (Or.inl rfl)))))) ?_ ?_ ?_
    · rw [hPut_at, pk_un (by decide), hPut_ne (by decide)]
    · obtain ⟨n, h1, e1, e2, h3⟩ := h.2.2.1
      refine ⟨n, h1, ?_, ?_, ?_⟩
      · rw [hPut_ne (by decide), hPut_ne (by decide)]; exact e1
      · rw [hPut_at, pk_un (by decide), hPut_ne (by decide)]; exact e2
      · rw [hPut_ne (by decide), hPut_ne (by decide), hPut_ne (by decide), hPut_ne (by decide)]; exact h3
    · refine ⟨0, by omega, ?_, ?_, fun k hk => absurd hk (by omega)⟩
      · rw [hPut_ne (by decide), hPut_at, pk_us]; rfl
      · rw [hPut_at, pk_us]; rfl
theorem e_within (v lo hi : Int32) (S : hS) : Ev 52 [.inl v, .inl lo, .inl hi] S (some (mIn v lo hi), S) := by
  show Rn hc_X9_isWithin 0 [some (.inl v), some (.inl lo), some (.inl hi)] [] S _
  repeat' (first | refine r_step rfl rfl ?_ | with_reducible refine r_i_eq (fun c => ?_) (fun c => ?_) | with_reducible refine r_i_ne (fun c => ?_) (fun c => ?_) | with_reducible refine r_i_lt (fun c => ?_) (fun c => ?_) | with_reducible refine r_i_ge (fun c => ?_) (fun c => ?_) | with_reducible refine r_i_gt (fun c => ?_) (fun c => ?_) | with_reducible refine r_i_le (fun c => ?_) (fun c => ?_))
  all_goals refine r_retz rfl (by first | exact Or.inl rfl | exact Or.inr rfl) ?_ rfl
  all_goals simp only [mIn, *, if_true, if_false]
theorem mIn_iff {v lo hi : Int32} : (mIn v lo hi = 0 ∧ ¬ (lo.toInt ≤ v.toInt ∧ v.toInt ≤ hi.toInt)) ∨ (mIn v lo hi = 1 ∧ lo.toInt ≤ v.toInt ∧ v.toInt ≤ hi.toInt) := by
  unfold mIn
  by_cases c1 : v < lo
  · rw [if_pos c1]; rw [i_lt] at c1; exact Or.inl ⟨rfl, by omega⟩
  · rw [if_neg c1]
    rw [i_lt] at c1
    by_cases c2 : hi < v
    · rw [if_pos c2]; rw [i_lt] at c2; exact Or.inl ⟨rfl, by omega⟩
    · rw [if_neg c2]; rw [i_lt] at c2; exact Or.inr ⟨rfl, by omega, by omega⟩
theorem e_stell (c : Nat) (S : hS) (j : Nat) (hj : j < 6) : Ev 37 [.inr (some (5, c)), .inl (nI j)] S (some (S.2.1 c j), S) := by
  show Rn hc_X5_tell 0 [some (.inr (some (5, c))), some (.inl (nI j))] [] S _
  refine r_step rfl rfl ?_
  match j, hj with
  | 0, _ => refine r_tsw 36 rfl (by decide) ?_; (iterate 2 refine r_step rfl rfl ?_); exact r_reti rfl rfl rfl
  | 1, _ => refine r_tsw 41 rfl (by decide) ?_; (iterate 2 refine r_step rfl rfl ?_); exact r_reti rfl rfl rfl
  | 2, _ => refine r_tsw 46 rfl (by decide) ?_; (iterate 2 refine r_step rfl rfl ?_); exact r_reti rfl rfl rfl
  | 3, _ => refine r_tsw 51 rfl (by decide) ?_; (iterate 2 refine r_step rfl rfl ?_); exact r_reti rfl rfl rfl
  | 4, _ => refine r_tsw 56 rfl (by decide) ?_; (iterate 2 refine r_step rfl rfl ?_); exact r_reti rfl rfl rfl
  | 5, _ => refine r_tsw 61 rfl (by decide) ?_; (iterate 2 refine r_step rfl rfl ?_); exact r_reti rfl rfl rfl
  | n + 6, h => exact absurd h (by omega)
theorem a_setting {S : hS} (h : Rel S) (x : Int32) : Alk 95 69 [.inl x] S := by
  have hL := h.1
  rcases mIn_iff (v := x) (lo := 0) (hi := 5) with ⟨k, q⟩ | ⟨k, q1, q2⟩
  · refine ⟨-1, S, S, ?_, ?_, h⟩
    · show Rn hc_X9_setting 0 [some (.inr (some (9, 0))), some (.inl x)] [] S _
      iterate 3 refine r_step rfl rfl ?_
      refine r_call rfl rfl (e_within _ _ _ _) ?_
      rw [k]
      repeat' (first | refine r_reti rfl ?_ rfl | refine r_step rfl rfl ?_ | with_reducible refine r_i_eq (fun c => ?_) (fun c => ?_) | with_reducible refine r_i_ne (fun c => ?_) (fun c => ?_) | with_reducible refine r_i_lt (fun c => ?_) (fun c => ?_) | with_reducible refine r_i_ge (fun c => ?_) (fun c => ?_) | with_reducible refine r_i_gt (fun c => ?_) (fun c => ?_) | with_reducible refine r_i_le (fun c => ?_) (fun c => ?_))
      rfl
    · show Rn hc_X10_setting 0 [some (.inr (some (10, 57))), some (.inl x)] [] S _
      iterate 3 refine r_step rfl rfl ?_
      refine r_call rfl rfl (e_in _ _ _ _) ?_
      rw [k]
      repeat' (first | refine r_reti rfl ?_ rfl | refine r_step rfl rfl ?_ | with_reducible refine r_i_eq (fun c => ?_) (fun c => ?_) | with_reducible refine r_i_ne (fun c => ?_) (fun c => ?_) | with_reducible refine r_i_lt (fun c => ?_) (fun c => ?_) | with_reducible refine r_i_ge (fun c => ?_) (fun c => ?_) | with_reducible refine r_i_gt (fun c => ?_) (fun c => ?_) | with_reducible refine r_i_le (fun c => ?_) (fun c => ?_))
      rfl
  · obtain ⟨j, hj, rfl⟩ := bt_nI (hi := 5) (x := x) ⟨q1, q2⟩ (by decide)
    refine ⟨S.2.1 63 j, S, S, ?_, ?_, h⟩
    · show Rn hc_X9_setting 0 [some (.inr (some (9, 0))), some (.inl (nI j))] [] S _
      iterate 3 refine r_step rfl rfl ?_
      refine r_call rfl rfl (e_within _ _ _ _) ?_
      rw [k]
      iterate 2 refine r_step rfl rfl ?_
      refine r_getr rfl (rv_0_0 hL) ?_
      refine r_step rfl rfl ?_
      refine r_call rfl rfl (e_stell 1 S j (by omega)) ?_
      refine r_step rfl rfl ?_
      exact r_reti rfl (h.2.1.2 j (by omega)) rfl
    · show Rn hc_X10_setting 0 [some (.inr (some (10, 57))), some (.inl (nI j))] [] S _
      iterate 3 refine r_step rfl rfl ?_
      refine r_call rfl rfl (e_in _ _ _ _) ?_
      rw [k]
      iterate 2 refine r_step rfl rfl ?_
      refine r_getr rfl (rv_57_6 hL) ?_
      refine r_step rfl rfl ?_
      refine r_iald rfl j (nI_toInt (by omega)) ⟨⟨by decide, by decide⟩, by show j < 6; omega⟩ ?_
      refine r_step rfl rfl ?_
      exact r_reti rfl rfl rfl
end
section
theorem nI_s1 (n : Nat) : nI n + 1 = nI (n + 1) := nI_1 n
theorem lit80 : (80 : Int32) = nI 80 := rfl
theorem lit6 : (6 : Int32) = nI 6 := rfl
theorem e_append (x : Int32) (n : Nat) (S : hS) (hL : hLay S) (hn : S.2.1 2 1 = nI n) (hl : n < 80) : Ev 38 [.inr (some (6, 2)), .inl x] S (none, hPut (hPut S 3 n x) 2 1 (nI (n + 1))) := by
  show Rn hc_X6_append 0 [some (.inr (some (6, 2))), some (.inl x)] [] S _
  iterate 3 refine r_step rfl rfl ?_
  refine r_i_lt (fun q => absurd (hn ▸ q) (nI_pos (by omega))) (fun _ => ?_)
  iterate 3 refine r_step rfl rfl ?_
  refine r_getr rfl (rv_2_0 hL) ?_
  iterate 2 refine r_step rfl rfl ?_
  refine r_i_ge (fun q => absurd (hn ▸ q) (nI_ge (b := 80) hl (by decide))) (fun _ => ?_)
  refine r_step rfl rfl ?_
  refine r_getr rfl (rv_2_0 hL) ?_
  iterate 3 refine r_step rfl rfl ?_
  refine r_iast0 rfl n (by rw [hn]; exact nI_toInt (by omega)) ⟨⟨by decide, by decide⟩, hl⟩ ?_
  repeat' (first | refine r_retn rfl ?_ | refine r_step rfl rfl ?_ | with_reducible refine r_i_eq (fun c => ?_) (fun c => ?_) | with_reducible refine r_i_ne (fun c => ?_) (fun c => ?_) | with_reducible refine r_i_lt (fun c => ?_) (fun c => ?_) | with_reducible refine r_i_ge (fun c => ?_) (fun c => ?_) | with_reducible refine r_i_gt (fun c => ?_) (fun c => ?_) | with_reducible refine r_i_le (fun c => ?_) (fun c => ?_))
  rw [hPut_ne (by decide), hn, nI_s1]
theorem a_type {S : hS} (h : Rel S) (x : Int32) : Alk 96 70 [.inl x] S := by
  have hL := h.1
  obtain ⟨n, hn, e1, e2, h3⟩ := h.2.2.1
  rcases mIn_iff (v := x) (lo := 0) (hi := 255) with ⟨k, q⟩ | ⟨k, q1, q2⟩
  · refine ⟨-1, S, S, ?_, ?_, h⟩
    · show Rn hc_X9_type 0 [some (.inr (some (9, 0))), some (.inl x)] [] S _
      iterate 3 refine r_step rfl rfl ?_
      refine r_call rfl rfl (e_within _ _ _ _) ?_
      rw [k]
      repeat' (first | refine r_reti rfl ?_ rfl | refine r_step rfl rfl ?_ | with_reducible refine r_i_eq (fun c => ?_) (fun c => ?_) | with_reducible refine r_i_ne (fun c => ?_) (fun c => ?_) | with_reducible refine r_i_lt (fun c => ?_) (fun c => ?_) | with_reducible refine r_i_ge (fun c => ?_) (fun c => ?_) | with_reducible refine r_i_gt (fun c => ?_) (fun c => ?_) | with_reducible refine r_i_le (fun c => ?_) (fun c => ?_))
      rfl
    · show Rn hc_X10_type 0 [some (.inr (some (10, 57))), some (.inl x)] [] S _
      iterate 3 refine r_step rfl rfl ?_
      refine r_call rfl rfl (e_in _ _ _ _) ?_
      rw [k]
      repeat' (first | refine r_reti rfl ?_ rfl | refine r_step rfl rfl ?_ | with_reducible refine r_i_eq (fun c => ?_) (fun c => ?_) | with_reducible refine r_i_ne (fun c => ?_) (fun c => ?_) | with_reducible refine r_i_lt (fun c => ?_) (fun c => ?_) | with_reducible refine r_i_ge (fun c => ?_) (fun c => ?_) | with_reducible refine r_i_gt (fun c => ?_) (fun c => ?_) | with_reducible refine r_i_le (fun c => ?_) (fun c => ?_))
      rfl
  · rcases Nat.lt_or_ge n 80 with hl | hl
    · have g1 : nI n < 80 := nI_lt (b := 80) hl (by decide)
      have g2 : ¬ nI n = 80 := fun q => by rw [lit80, nI_eq (by omega) (by omega)] at q; omega
      refine ⟨nI (n + 1), hPut (hPut S 3 n x) 2 1 (nI (n + 1)), hPut (hPut (hPut (hPut S 3 n x) 2 1 (nI (n + 1))) 64 n x) 57 8 (nI (n + 1)), ?_, ?_, ?_⟩
      · show Rn hc_X9_type 0 [some (.inr (some (9, 0))), some (.inl x)] [] S _
        iterate 3 refine r_step rfl rfl ?_
        refine r_call rfl rfl (e_within _ _ _ _) ?_
        rw [k]
        iterate 2 refine r_step rfl rfl ?_
        refine r_getr rfl (rv_0_1 hL) ?_
        iterate 3 refine r_step rfl rfl ?_
        refine r_i_lt (fun _ => ?_) (fun q => absurd (e1 ▸ g1) q)
        refine r_step rfl rfl ?_
        refine r_getr rfl (rv_0_1 hL) ?_
        refine r_step rfl rfl ?_
        refine r_callv rfl rfl (e_append x n S hL e1 hl) ?_
        refine r_step rfl rfl ?_
        refine r_getr rfl (rv_0_1 hL) ?_
        refine r_step rfl rfl ?_
        exact r_reti rfl (by rw [hPut_at, pk_us]) rfl
      · show Rn hc_X10_type 0 [some (.inr (some (10, 57))), some (.inl x)] [] (hPut (hPut S 3 n x) 2 1 (nI (n + 1))) _
        have e3 : (hPut (hPut S 3 n x) 2 1 (nI (n + 1))).2.1 57 8 = nI n := by rw [hPut_ne (by decide), hPut_ne (by decide)]; exact e2
        have r7 : (hPut (hPut S 3 n x) 2 1 (nI (n + 1))).2.2 57 7 = some (10080, 64) := rv_57_7 hL
        generalize hPut (hPut S 3 n x) 2 1 (nI (n + 1)) = T at *
        iterate 3 refine r_step rfl rfl ?_
        refine r_call rfl rfl (e_in _ _ _ _) ?_
        rw [k]
        iterate 5 refine r_step rfl rfl ?_
        refine r_i_ne (fun _ => ?_) (fun q => absurd (e3 ▸ q) g2)
        refine r_step rfl rfl ?_
        refine r_getr rfl r7 ?_
        iterate 3 refine r_step rfl rfl ?_
        refine r_iast0 rfl n (by rw [e3]; exact nI_toInt (by omega)) ⟨⟨by decide, by decide⟩, hl⟩ ?_
        have e4 : (hPut T 64 n x).2.1 57 8 = nI n := by rw [hPut_ne (by decide)]; exact e3
        iterate 6 refine r_step rfl rfl ?_
        rw [e4, nI_s1]
        iterate 2 refine r_step rfl rfl ?_
        exact r_reti rfl (by rw [hPut_at, pk_us]) rfl
      · refine rel_ts h ((hFr_put _ _ _ _ (Or.inr (Or.inl rfl))).trans ((hFr_put _ _ _ _ (Or.inl rfl)).trans ((hFr_put _ _ _ _ (Or.inr (Or.inr (Or.inl rfl)))).trans (hFr_put _ _ _ _ (Or.inr (Or.inr (Or.inr (Or.inl rfl)))))))) ?_ ?_ ?_
        · rw [hPut_at, pk_un (by decide), hPut_ne (by decide), hPut_ne (by decide), hPut_ne (by decide)]
        · refine ⟨n + 1, by omega, ?_, ?_, fun j hj => ?_⟩
          · rw [hPut_ne (by decide), hPut_ne (by decide), hPut_at, pk_us]
          · rw [hPut_at, pk_us]
          · rw [hPut_ne (by decide), hPut_ne (by decide), hPut_ne (by decide), hPut_at, hPut_ne (show 64 ≠ 57 by decide), hPut_at, hPut_ne (show 64 ≠ 2 by decide), hPut_ne (show 64 ≠ 3 by decide)]
            by_cases hjn : j = n
            · subst hjn
              rw [pk_us, pk_us]
              exact ⟨rfl, q1, q2⟩
            · rw [pk_un hjn, pk_un hjn]
              exact h3 j (by omega)
        · obtain ⟨z, k1, k2, k3, k4⟩ := h.2.2.2.2.2.2
          refine ⟨z, k1, ?_, ?_, ?_⟩
          · rw [hPut_ne (by decide), hPut_ne (by decide), hPut_ne (by decide), hPut_ne (by decide)]; exact k2
          · rw [hPut_at, pk_un (by decide), hPut_ne (by decide), hPut_ne (by decide), hPut_ne (by decide)]; exact k3
          · have e : ∀ p, p ≠ 57 → p ≠ 64 → p ≠ 2 → p ≠ 3 → (hPut (hPut (hPut (hPut S 3 n x) 2 1 (nI (n + 1))) 64 n x) 57 8 (nI (n + 1))).2.1 p = S.2.1 p := fun p a b c d => by rw [hPut_ne a, hPut_ne b, hPut_ne c, hPut_ne d]
            rw [e 47 (by decide) (by decide) (by decide) (by decide), e 48 (by decide) (by decide) (by decide) (by decide), e 49 (by decide) (by decide) (by decide) (by decide), e 70 (by decide) (by decide) (by decide) (by decide)]
            exact k4
    · have hn8 : n = 80 := by omega
      subst hn8
      refine ⟨-3, S, S, ?_, ?_, h⟩
      · show Rn hc_X9_type 0 [some (.inr (some (9, 0))), some (.inl x)] [] S _
        iterate 3 refine r_step rfl rfl ?_
        refine r_call rfl rfl (e_within _ _ _ _) ?_
        rw [k]
        iterate 2 refine r_step rfl rfl ?_
        refine r_getr rfl (rv_0_1 hL) ?_
        iterate 3 refine r_step rfl rfl ?_
        refine r_i_lt (fun q => absurd (e1 ▸ q) (by decide)) (fun q => ?_)
        refine r_step rfl rfl ?_
        exact r_reti rfl rfl rfl
      · show Rn hc_X10_type 0 [some (.inr (some (10, 57))), some (.inl x)] [] S _
        iterate 3 refine r_step rfl rfl ?_
        refine r_call rfl rfl (e_in _ _ _ _) ?_
        rw [k]
        iterate 5 refine r_step rfl rfl ?_
        refine r_i_ne (fun q => absurd (e2.trans lit80.symm) q) (fun q => ?_)
        refine r_step rfl rfl ?_
        exact r_reti rfl rfl rfl
theorem ts_out {pc : Nat} {d lo hi : Int} {offs : Array Int} {x : Int32} (t : Nat) (h : x.toInt < lo ∨ hi < x.toInt) (ht : ((pc : Int) + d).toNat = t) : hTs pc d lo hi offs x = t := (hTs_out h).trans ht
theorem a_count {S : hS} (h : Rel S) (x : Int32) : Alk 50 8 [.inl x] S := by
  have hL := h.1
  obtain ⟨hs, ⟨n, -, e1, e2, -⟩, ⟨⟨-, m1, m2, m3, -⟩, -⟩, ⟨p, z, -, -, -, e3, e4, -⟩, -, ⟨y, -, e5, e6, -⟩⟩ := h.2
  rcases mIn_iff (v := x) (lo := 0) (hi := 5) with ⟨k, q⟩ | ⟨k, q1, q2⟩
  · have q0 : x.toInt < 0 ∨ 5 < x.toInt := by
      have l5 : (5 : Int32).toInt = 5 := rfl
      rw [i_z, l5] at q
      omega
    refine ⟨-1, S, S, ?_, ?_, h⟩
    · show Rn hc_X9_count 0 [some (.inr (some (9, 0))), some (.inl x)] [] S _
      refine r_step rfl rfl ?_
      refine r_tsw 91 rfl (ts_out 91 q0 rfl) ?_
      refine r_step rfl rfl ?_
      exact r_reti rfl rfl rfl
    · show Rn hc_X10_count 0 [some (.inr (some (10, 57))), some (.inl x)] [] S _
      refine r_step rfl rfl ?_
      refine r_tsw 79 rfl (ts_out 79 q0 rfl) ?_
      refine r_step rfl rfl ?_
      exact r_reti rfl rfl rfl
  · obtain ⟨j, hj, rfl⟩ := bt_nI (hi := 5) (x := x) ⟨q1, q2⟩ (by decide)
    match j, hj with
    | 0, _ =>
      refine ⟨S.2.1 58 16, S, S, ?_, ?_, h⟩
      · show Rn hc_X9_count 0 [some (.inr (some (9, 0))), some (.inl (nI 0))] [] S _
        refine r_step rfl rfl ?_
        refine r_tsw 40 rfl (by decide) ?_
        repeat' (first | refine r_getr rfl (rv_0_3 hL) ?_ | refine r_reti rfl ?_ rfl | refine r_step rfl rfl ?_ | with_reducible refine r_i_eq (fun c => ?_) (fun c => ?_) | with_reducible refine r_i_ne (fun c => ?_) (fun c => ?_) | with_reducible refine r_i_lt (fun c => ?_) (fun c => ?_) | with_reducible refine r_i_ge (fun c => ?_) (fun c => ?_) | with_reducible refine r_i_gt (fun c => ?_) (fun c => ?_) | with_reducible refine r_i_le (fun c => ?_) (fun c => ?_))
        exact m1
      · show Rn hc_X10_count 0 [some (.inr (some (10, 57))), some (.inl (nI 0))] [] S _
        refine r_step rfl rfl ?_
        refine r_tsw 40 rfl (by decide) ?_
        repeat' (first | refine r_getr rfl (rv_57_0 hL) ?_ | refine r_reti rfl ?_ rfl | refine r_iald rfl 16 rfl ⟨⟨by decide, by decide⟩, by decide⟩ ?_ | refine r_iald rfl 17 rfl ⟨⟨by decide, by decide⟩, by decide⟩ ?_ | refine r_iald rfl 18 rfl ⟨⟨by decide, by decide⟩, by decide⟩ ?_ | refine r_step rfl rfl ?_ | with_reducible refine r_i_eq (fun c => ?_) (fun c => ?_) | with_reducible refine r_i_ne (fun c => ?_) (fun c => ?_) | with_reducible refine r_i_lt (fun c => ?_) (fun c => ?_) | with_reducible refine r_i_ge (fun c => ?_) (fun c => ?_) | with_reducible refine r_i_gt (fun c => ?_) (fun c => ?_) | with_reducible refine r_i_le (fun c => ?_) (fun c => ?_))
        rfl
    | 1, _ =>
      refine ⟨S.2.1 58 18, S, S, ?_, ?_, h⟩
      · show Rn hc_X9_count 0 [some (.inr (some (9, 0))), some (.inl (nI 1))] [] S _
        refine r_step rfl rfl ?_
        refine r_tsw 48 rfl (by decide) ?_
        repeat' (first | refine r_getr rfl (rv_0_3 hL) ?_ | refine r_getr rfl (rv_6_1 hL) ?_ | refine r_reti rfl ?_ rfl | refine r_step rfl rfl ?_ | with_reducible refine r_i_eq (fun c => ?_) (fun c => ?_) | with_reducible refine r_i_ne (fun c => ?_) (fun c => ?_) | with_reducible refine r_i_lt (fun c => ?_) (fun c => ?_) | with_reducible refine r_i_ge (fun c => ?_) (fun c => ?_) | with_reducible refine r_i_gt (fun c => ?_) (fun c => ?_) | with_reducible refine r_i_le (fun c => ?_) (fun c => ?_))
        exact m3
      · show Rn hc_X10_count 0 [some (.inr (some (10, 57))), some (.inl (nI 1))] [] S _
        refine r_step rfl rfl ?_
        refine r_tsw 48 rfl (by decide) ?_
        repeat' (first | refine r_getr rfl (rv_57_0 hL) ?_ | refine r_reti rfl ?_ rfl | refine r_iald rfl 16 rfl ⟨⟨by decide, by decide⟩, by decide⟩ ?_ | refine r_iald rfl 17 rfl ⟨⟨by decide, by decide⟩, by decide⟩ ?_ | refine r_iald rfl 18 rfl ⟨⟨by decide, by decide⟩, by decide⟩ ?_ | refine r_step rfl rfl ?_ | with_reducible refine r_i_eq (fun c => ?_) (fun c => ?_) | with_reducible refine r_i_ne (fun c => ?_) (fun c => ?_) | with_reducible refine r_i_lt (fun c => ?_) (fun c => ?_) | with_reducible refine r_i_ge (fun c => ?_) (fun c => ?_) | with_reducible refine r_i_gt (fun c => ?_) (fun c => ?_) | with_reducible refine r_i_le (fun c => ?_) (fun c => ?_))
        rfl
    | 2, _ =>
      refine ⟨S.2.1 58 17, S, S, ?_, ?_, h⟩
      · show Rn hc_X9_count 0 [some (.inr (some (9, 0))), some (.inl (nI 2))] [] S _
        refine r_step rfl rfl ?_
        refine r_tsw 59 rfl (by decide) ?_
        repeat' (first | refine r_getr rfl (rv_0_3 hL) ?_ | refine r_reti rfl ?_ rfl | refine r_step rfl rfl ?_ | with_reducible refine r_i_eq (fun c => ?_) (fun c => ?_) | with_reducible refine r_i_ne (fun c => ?_) (fun c => ?_) | with_reducible refine r_i_lt (fun c => ?_) (fun c => ?_) | with_reducible refine r_i_ge (fun c => ?_) (fun c => ?_) | with_reducible refine r_i_gt (fun c => ?_) (fun c => ?_) | with_reducible refine r_i_le (fun c => ?_) (fun c => ?_))
        exact m2
      · show Rn hc_X10_count 0 [some (.inr (some (10, 57))), some (.inl (nI 2))] [] S _
        refine r_step rfl rfl ?_
        refine r_tsw 56 rfl (by decide) ?_
        repeat' (first | refine r_getr rfl (rv_57_0 hL) ?_ | refine r_reti rfl ?_ rfl | refine r_iald rfl 16 rfl ⟨⟨by decide, by decide⟩, by decide⟩ ?_ | refine r_iald rfl 17 rfl ⟨⟨by decide, by decide⟩, by decide⟩ ?_ | refine r_iald rfl 18 rfl ⟨⟨by decide, by decide⟩, by decide⟩ ?_ | refine r_step rfl rfl ?_ | with_reducible refine r_i_eq (fun c => ?_) (fun c => ?_) | with_reducible refine r_i_ne (fun c => ?_) (fun c => ?_) | with_reducible refine r_i_lt (fun c => ?_) (fun c => ?_) | with_reducible refine r_i_ge (fun c => ?_) (fun c => ?_) | with_reducible refine r_i_gt (fun c => ?_) (fun c => ?_) | with_reducible refine r_i_le (fun c => ?_) (fun c => ?_))
        rfl
    | 3, _ =>
      refine ⟨nI y, S, S, ?_, ?_, h⟩
      · show Rn hc_X9_count 0 [some (.inr (some (9, 0))), some (.inl (nI 3))] [] S _
        refine r_step rfl rfl ?_
        refine r_tsw 67 rfl (by decide) ?_
        repeat' (first | refine r_getr rfl (rv_0_7 hL) ?_ | refine r_reti rfl ?_ rfl | refine r_step rfl rfl ?_ | with_reducible refine r_i_eq (fun c => ?_) (fun c => ?_) | with_reducible refine r_i_ne (fun c => ?_) (fun c => ?_) | with_reducible refine r_i_lt (fun c => ?_) (fun c => ?_) | with_reducible refine r_i_ge (fun c => ?_) (fun c => ?_) | with_reducible refine r_i_gt (fun c => ?_) (fun c => ?_) | with_reducible refine r_i_le (fun c => ?_) (fun c => ?_))
        exact e5
      · show Rn hc_X10_count 0 [some (.inr (some (10, 57))), some (.inl (nI 3))] [] S _
        refine r_step rfl rfl ?_
        refine r_tsw 64 rfl (by decide) ?_
        repeat' (first | refine r_reti rfl ?_ rfl | refine r_step rfl rfl ?_ | with_reducible refine r_i_eq (fun c => ?_) (fun c => ?_) | with_reducible refine r_i_ne (fun c => ?_) (fun c => ?_) | with_reducible refine r_i_lt (fun c => ?_) (fun c => ?_) | with_reducible refine r_i_ge (fun c => ?_) (fun c => ?_) | with_reducible refine r_i_gt (fun c => ?_) (fun c => ?_) | with_reducible refine r_i_le (fun c => ?_) (fun c => ?_))
        exact e6
    | 4, _ =>
      refine ⟨nI n, S, S, ?_, ?_, h⟩
      · show Rn hc_X9_count 0 [some (.inr (some (9, 0))), some (.inl (nI 4))] [] S _
        refine r_step rfl rfl ?_
        refine r_tsw 75 rfl (by decide) ?_
        repeat' (first | refine r_getr rfl (rv_0_1 hL) ?_ | refine r_reti rfl ?_ rfl | refine r_step rfl rfl ?_ | with_reducible refine r_i_eq (fun c => ?_) (fun c => ?_) | with_reducible refine r_i_ne (fun c => ?_) (fun c => ?_) | with_reducible refine r_i_lt (fun c => ?_) (fun c => ?_) | with_reducible refine r_i_ge (fun c => ?_) (fun c => ?_) | with_reducible refine r_i_gt (fun c => ?_) (fun c => ?_) | with_reducible refine r_i_le (fun c => ?_) (fun c => ?_))
        exact e1
      · show Rn hc_X10_count 0 [some (.inr (some (10, 57))), some (.inl (nI 4))] [] S _
        refine r_step rfl rfl ?_
        refine r_tsw 69 rfl (by decide) ?_
        repeat' (first | refine r_reti rfl ?_ rfl | refine r_step rfl rfl ?_ | with_reducible refine r_i_eq (fun c => ?_) (fun c => ?_) | with_reducible refine r_i_ne (fun c => ?_) (fun c => ?_) | with_reducible refine r_i_lt (fun c => ?_) (fun c => ?_) | with_reducible refine r_i_ge (fun c => ?_) (fun c => ?_) | with_reducible refine r_i_gt (fun c => ?_) (fun c => ?_) | with_reducible refine r_i_le (fun c => ?_) (fun c => ?_))
        exact e2
    | 5, _ =>
      refine ⟨nI z, S, S, ?_, ?_, h⟩
      · show Rn hc_X9_count 0 [some (.inr (some (9, 0))), some (.inl (nI 5))] [] S _
        refine r_step rfl rfl ?_
        refine r_tsw 83 rfl (by decide) ?_
        repeat' (first | refine r_getr rfl (rv_0_4 hL) ?_ | refine r_reti rfl ?_ rfl | refine r_step rfl rfl ?_ | with_reducible refine r_i_eq (fun c => ?_) (fun c => ?_) | with_reducible refine r_i_ne (fun c => ?_) (fun c => ?_) | with_reducible refine r_i_lt (fun c => ?_) (fun c => ?_) | with_reducible refine r_i_ge (fun c => ?_) (fun c => ?_) | with_reducible refine r_i_gt (fun c => ?_) (fun c => ?_) | with_reducible refine r_i_le (fun c => ?_) (fun c => ?_))
        exact e3
      · show Rn hc_X10_count 0 [some (.inr (some (10, 57))), some (.inl (nI 5))] [] S _
        refine r_step rfl rfl ?_
        refine r_tsw 74 rfl (by decide) ?_
        repeat' (first | refine r_reti rfl ?_ rfl | refine r_step rfl rfl ?_ | with_reducible refine r_i_eq (fun c => ?_) (fun c => ?_) | with_reducible refine r_i_ne (fun c => ?_) (fun c => ?_) | with_reducible refine r_i_lt (fun c => ?_) (fun c => ?_) | with_reducible refine r_i_ge (fun c => ?_) (fun c => ?_) | with_reducible refine r_i_gt (fun c => ?_) (fun c => ?_) | with_reducible refine r_i_le (fun c => ?_) (fun c => ?_))
        exact e4
    | n + 6, hh => exact absurd hh (by omega)
end
section
/-! The model's rows, copied in loops. -/
def cp (f g : Nat → Int32) (a b k N : Nat) : Nat → Int32 := fun j => if a + k ≤ j ∧ j < a + N then g (b + (j - a)) else f j
theorem cp_end (f g : Nat → Int32) (a b N : Nat) : cp f g a b N N = f := by
  funext j
  unfold cp
  rw [if_neg (by omega)]
theorem cp_step (f g : Nat → Int32) (a b : Nat) {k N : Nat} (h : k < N) : cp (upd f (a + k) (g (b + k))) g a b (k + 1) N = cp f g a b k N := by
  funext j
  unfold cp
  by_cases h1 : a + (k + 1) ≤ j ∧ j < a + N
  · rw [if_pos h1, if_pos (by omega)]
  · rw [if_neg h1]
    by_cases h2 : j = a + k
    · subst h2
      rw [pk_us, if_pos (by omega), show a + k - a = k by omega]
    · rw [pk_un h2, if_neg (by omega)]
theorem cp_at {f g : Nat → Int32} {a b N i : Nat} (h : i < N) : cp f g a b 0 N (a + i) = g (b + i) := by
  unfold cp
  rw [if_pos (by omega), show a + i - a = i by omega]
theorem cp_out {f g : Nat → Int32} {a b N j : Nat} (h : j < a ∨ a + N ≤ j) : cp f g a b 0 N j = f j := by
  unfold cp
  rw [if_neg (by omega)]
def sh (f : Nat → Int32) (k : Nat) : Nat → Int32 := fun j => if k ≤ j ∧ j < 295 then f (j + 59) else f j
theorem sh_end (f : Nat → Int32) : sh f 295 = f := by
  funext j
  unfold sh
  rw [if_neg (by omega)]
theorem sh_step (f : Nat → Int32) {k : Nat} (h : k < 295) : sh (upd f k (f (k + 59))) (k + 1) = sh f k := by
  funext j
  unfold sh
  by_cases h1 : k + 1 ≤ j ∧ j < 295
  · rw [if_pos h1, if_pos (by omega), pk_un (by omega)]
  · rw [if_neg h1]
    by_cases h2 : j = k
    · subst h2; rw [pk_us, if_pos (by omega)]
    · rw [pk_un h2, if_neg (by omega)]
theorem hLay.put {S : hS} (h : hLay S) (c k : Nat) (x : Int32) : hLay (hPut S c k x) := h.fr (hFr_put S c k x (P := fun _ => True) trivial)
theorem hLay.row {S : hS} (h : hLay S) (c : Nat) (f : Nat → Int32) : hLay (hRow S c f) := h.fr (hFr_row S c f (P := fun _ => True) trivial)
theorem lt_lit {k N : Nat} {x : Int32} (hx : x = nI N) (hN : N < 2147483648) (h : k < N) : ¬ x ≤ nI k := by rw [hx]; exact nI_ge h hN
theorem ti {n : Nat} (h : n < 2147483648) : (nI n).toInt = (n : Int) := nI_toInt h
theorem add_lit {a b : Nat} {x : Int32} (hx : x = nI b) : nI a + x = nI (a + b) := by rw [hx, nI_add]
theorem mul_lit {a b : Nat} {x : Int32} (hx : x = nI a) : x * nI b = nI (a * b) := by rw [hx, pk_mul]
set_option maxHeartbeats 4000000 in
set_option maxRecDepth 100000 in
theorem notes_l1 : ∀ (d k : Nat) (T : hS) (o : Option Int32 × hS), k + d = 295 → hLay T → Rn hc_X10_notes 39 [some (.inr (some (10, 57))), some (.inl (nI 295))] [] (hRow T 60 (sh (T.2.1 60) k)) o → Rn hc_X10_notes 11 [some (.inr (some (10, 57))), some (.inl (nI k))] [] T o := by
  intro d
  induction d with
  | zero =>
    intro k T o hk hL kk
    have : k = 295 := by omega
    subst this
    rw [sh_end, hRow_self] at kk
    iterate 3 refine r_step rfl rfl ?_
    refine r_i_ge (fun _ => kk) (fun q => absurd (show (295 : Int32) ≤ nI 295 by decide) q)
  | succ d ih =>
    intro k T o hk hL kk
    have hkl : k < 295 := by omega
    iterate 3 refine r_step rfl rfl ?_
    refine r_i_ge (fun q => absurd q (lt_lit (N := 295) rfl (by decide) hkl)) (fun _ => ?_)
    refine r_step rfl rfl ?_
    refine r_getr rfl (rv_57_2 hL) ?_
    iterate 2 refine r_step rfl rfl ?_
    refine r_getr rfl (rv_57_2 hL) ?_
    iterate 3 refine r_step rfl rfl ?_
    rw [show nI k + 59 = nI (k + 59) from add_lit rfl]
    refine r_iald rfl (k + 59) (ti (by omega)) ⟨⟨by decide, by decide⟩, by show k + 59 < 354; omega⟩ ?_
    refine r_iast0 rfl k (ti (by omega)) ⟨⟨by decide, by decide⟩, by show k < 354; omega⟩ ?_
    iterate 2 refine r_step rfl rfl ?_
    show Rn hc_X10_notes 11 [some (.inr (some (10, 57))), some (.inl (nI k + 1))] [] _ _
    rw [nI_s1]
    refine ih (k + 1) _ o (by omega) (hL.put _ _ _) ?_
    rw [hPut_at, hPut_eq, hRow_row, sh_step _ hkl]
    exact kk
set_option maxHeartbeats 4000000 in
set_option maxRecDepth 100000 in
theorem notes_l2 (z : Nat) (hz : z < 6) : ∀ (d k : Nat) (T : hS) (o : Option Int32 × hS), k + d = 59 → hLay T → T.2.1 57 3 = nI z → Rn hc_X10_notes 83 [some (.inr (some (10, 57))), some (.inl (nI 59))] [] (hRow T 60 (cp (T.2.1 60) (T.2.1 58) (59 * z) 0 k 59)) o → Rn hc_X10_notes 51 [some (.inr (some (10, 57))), some (.inl (nI k))] [] T o := by
  intro d
  induction d with
  | zero =>
    intro k T o hk hL hu kk
    have : k = 59 := by omega
    subst this
    rw [cp_end, hRow_self] at kk
    iterate 3 refine r_step rfl rfl ?_
    refine r_i_ge (fun _ => kk) (fun q => absurd (show (59 : Int32) ≤ nI 59 by decide) q)
  | succ d ih =>
    intro k T o hk hL hu kk
    have hkl : k < 59 := by omega
    iterate 3 refine r_step rfl rfl ?_
    refine r_i_ge (fun q => absurd q (lt_lit (N := 59) rfl (by decide) hkl)) (fun _ => ?_)
    refine r_step rfl rfl ?_
    refine r_getr rfl (rv_57_2 hL) ?_
    iterate 6 refine r_step rfl rfl ?_
    rw [hu, show (59 : Int32) * nI z = nI (59 * z) from mul_lit rfl, nI_add]
    refine r_step rfl rfl ?_
    refine r_getr rfl (rv_57_0 hL) ?_
    refine r_step rfl rfl ?_
    refine r_iald rfl k (ti (by omega)) ⟨⟨by decide, by decide⟩, by show k < 59; omega⟩ ?_
    refine r_iast0 rfl (59 * z + k) (ti (by omega)) ⟨⟨by decide, by decide⟩, by show 59 * z + k < 354; omega⟩ ?_
    iterate 2 refine r_step rfl rfl ?_
    show Rn hc_X10_notes 51 [some (.inr (some (10, 57))), some (.inl (nI k + 1))] [] _ _
    rw [nI_s1]
    refine ih (k + 1) _ o (by omega) (hL.put _ _ _) (by rw [hPut_ne (by decide)]; exact hu) ?_
    have e := cp_step (T.2.1 60) (T.2.1 58) (59 * z) 0 hkl
    rw [Nat.zero_add] at e
    rw [hPut_at, hPut_ne (show 58 ≠ 60 by decide), hPut_eq, hRow_row, e]
    exact kk
/-- notes(): a row more is known; of six the eldest is lost -/
def noted (z : Nat) (past s : Nat → Int32) : Nat → Int32 := if z = 6 then cp (sh past 0) s 295 0 0 59 else cp past s (59 * z) 0 0 59
theorem e_notes (z : Nat) (S : hS) (hL : hLay S) (hz : z ≤ 6) (hu : S.2.1 57 3 = nI z) : ∃ S', Ev 14 [.inr (some (10, 57))] S (none, S') ∧ hFr S S' (fun p => p = 57 ∨ p = 60) ∧ S'.2.1 60 = noted z (S.2.1 60) (S.2.1 58) ∧ S'.2.1 57 = upd (S.2.1 57) 3 (nI (min 6 (z + 1))) := by
  -- the second half
  have half : ∀ (y : Nat) (T : hS) (L1 : Option hV), y < 6 → hLay T → T.2.1 57 3 = nI y → Rn hc_X10_notes 49 [some (.inr (some (10, 57))), L1] [] T (none, hPut (hRow T 60 (cp (T.2.1 60) (T.2.1 58) (59 * y) 0 0 59)) 57 3 (nI (y + 1))) := by
    intro y T L1 hy hT hu
    iterate 2 refine r_step rfl rfl ?_
    refine notes_l2 y hy 59 0 T _ (by omega) hT hu ?_
    iterate 6 refine r_step rfl rfl ?_
    refine r_retn rfl ?_
    rw [hRow_ne _ _ (show 57 ≠ 60 by decide), hu, nI_s1]
  by_cases h6 : z = 6
  · subst h6
    have kS : hLay (hPut (hRow S 60 (sh (S.2.1 60) 0)) 57 3 (nI 5)) := (hL.row _ _).put _ _ _
    refine ⟨hPut (hRow (hPut (hRow S 60 (sh (S.2.1 60) 0)) 57 3 (nI 5)) 60 (cp ((hPut (hRow S 60 (sh (S.2.1 60) 0)) 57 3 (nI 5)).2.1 60) ((hPut (hRow S 60 (sh (S.2.1 60) 0)) 57 3 (nI 5)).2.1 58) (59 * 5) 0 0 59)) 57 3 (nI (5 + 1)), ?_, ?_, ?_, ?_⟩
    · show Rn hc_X10_notes 0 [some (.inr (some (10, 57))), none] [] S _
      iterate 4 refine r_step rfl rfl ?_
      refine r_i_ne (fun q => absurd (hu.trans lit6.symm) q) (fun _ => ?_)
      iterate 2 refine r_step rfl rfl ?_
      refine notes_l1 295 0 S _ (by omega) hL ?_
      iterate 6 refine r_step rfl rfl ?_
      rw [hRow_ne _ _ (show 57 ≠ 60 by decide), hu, show nI 6 - 1 = nI 5 from rfl]
      exact half 5 _ _ (by omega) kS (by rw [hPut_at, pk_us])
    · refine (hFr_row _ _ _ (Or.inr rfl)).trans ((hFr_put _ _ _ _ (Or.inl rfl)).trans ((hFr_row _ _ _ (Or.inr rfl)).trans (hFr_put _ _ _ _ (Or.inl rfl))))
    · rw [hPut_ne (by decide), hRow_at, hPut_ne (by decide), hRow_at, hPut_ne (by decide), hRow_ne _ _ (by decide)]
      unfold noted
      rw [if_pos rfl]
    · rw [hPut_at, hRow_ne _ _ (by decide), hPut_at, hRow_ne _ _ (by decide), upd_upd]
      rfl
  · refine ⟨hPut (hRow S 60 (cp (S.2.1 60) (S.2.1 58) (59 * z) 0 0 59)) 57 3 (nI (z + 1)), ?_, ?_, ?_, ?_⟩
    · show Rn hc_X10_notes 0 [some (.inr (some (10, 57))), none] [] S _
      iterate 4 refine r_step rfl rfl ?_
      refine r_i_ne (fun _ => half z S none (by omega) hL hu) (fun q => absurd q (by rw [hu, lit6, nI_eq (by omega) (by omega)]; exact h6))
    · exact (hFr_row _ _ _ (Or.inr rfl)).trans (hFr_put _ _ _ _ (Or.inl rfl))
    · rw [hPut_ne (by decide), hRow_at]
      unfold noted
      rw [if_neg h6]
    · rw [hPut_at, hRow_ne _ _ (by decide), show min 6 (z + 1) = z + 1 by omega]
end
section
/-! What can be undone: one more is known on both sides. -/
theorem mInv.c59 {st u v : Nat → Int32} (h : mInv st u) (e : ∀ j, j < 59 → v j = u j) : mInv st v := by
  obtain ⟨a, b, c, d, f⟩ := h
  refine ⟨a.congr rfl (fun j hj => e j (by omega)), b.congr (e 0 (by omega)) (e 1 (by omega)) (e 2 (by omega)), ?_, ?_, fun k hk => ?_⟩
  · rw [e 16 (by omega)]; exact c
  · rw [e 18 (by omega)]; exact d
  · rw [e (19 + k) (by omega)]; exact f k hk
theorem mRel.c59 {m w t a u v : Nat → Int32} (h : mRel m w t a u) (e : ∀ j, j < 59 → v j = u j) : mRel m w t a v := by
  obtain ⟨h1, h2, h3, h4, n, z, g1, g2, g3, g4, g5⟩ := h
  refine ⟨fun j hj => by rw [e j (by omega)]; exact h1 j hj, by rw [e 16 (by omega)]; exact h2, by rw [e 17 (by omega)]; exact h3, by rw [e 18 (by omega)]; exact h4, n, z, g1, g2, g3, by rw [e 18 (by omega)]; exact g4, fun k hk => by rw [e (19 + k) (by omega)]; exact g5 k hk⟩
theorem rMom.c59 {iv : Nat → Nat → Int32} {c : Nat} {u v : Nat → Int32} (h : rMom iv c u) (e : ∀ j, j < 59 → v j = u j) : rMom iv c v := ⟨h.1.c59 e, h.2.c59 e⟩
/-- a copied moment is related to what its model was -/
theorem mRel.copy {S S' : hS} {c d : Nat} {u : Nat → Int32} (h : mRel (S.2.1 d) (S.2.1 (d + 1)) (S.2.1 (d + 2)) (S.2.1 (d + 3)) u) (m : momEq S' c S d) : mRel (S'.2.1 c) (S'.2.1 (c + 1)) (S'.2.1 (c + 2)) (S'.2.1 (c + 3)) u := by
  obtain ⟨h1, h2, h3, h4, n, z, g1, g2, g3, g4, g5⟩ := h
  obtain ⟨q1, q2, q3, q4, q5, q6⟩ := m
  exact ⟨fun j hj => by rw [q1 j hj]; exact h1 j hj, by rw [q5]; exact h2, by rw [q6]; exact h3, by rw [q3]; exact h4, n, z, g1, g2, by rw [q2]; exact g3, g4, fun k hk => by rw [q4 _ (Nat.mod_lt _ (by decide))]; exact g5 k hk⟩
theorem jmin6 {z : Nat} (h : z ≤ 6) : jmin 6 (nI z + 1) = nI (min 6 (z + 1)) := by
  have k : ∀ z, z ≤ 6 → jmin 6 (nI z + 1) = nI (min 6 (z + 1)) := by
    intro z hz
    match z, hz with
    | 0, _ | 1, _ | 2, _ | 3, _ | 4, _ | 5, _ | 6, _ => rfl
    | n + 7, h => exact absurd h (by omega)
  exact k z h
theorem rPast_add {S S' : hS} {p z : Nat} {u : Int32} (hp : p < 6) (hz : z ≤ 6) (old : ∀ i, i < z → rMom S.2.1 (12 + 4 * ((p + 5 - i) % 6)) (fun j => S.2.1 60 (59 * (z - 1 - i) + j))) (pres : rMom S.2.1 6 (S.2.1 58))
    (m : momEq S' (12 + 4 * p) S 6) (e1 : S'.2.1 10 1 = nI ((p + 1) % 6)) (e2 : S'.2.1 10 2 = nI (min 6 (z + 1))) (eu : u = nI (min 6 (z + 1))) (e60 : S'.2.1 60 = noted z (S.2.1 60) (S.2.1 58)) (e63 : S'.2.1 63 = S.2.1 63) (fr : ∀ q, 12 ≤ q → q < 36 → (q < 12 + 4 * p ∨ 16 + 4 * p ≤ q) → S'.2.1 q = S.2.1 q) : rPast S'.2.1 u := by
  refine ⟨(p + 1) % 6, min 6 (z + 1), Nat.mod_lt _ (by decide), by omega, e1, e2, eu, fun i hi => ?_⟩
  by_cases hi0 : i = 0
  · subst hi0
    have ep : ((p + 1) % 6 + 5 - 0) % 6 = p := by omega
    rw [ep]
    have k : rMom S'.2.1 (12 + 4 * p) (S.2.1 58) := ⟨pres.1.copy m, by rw [e63]; exact pres.2⟩
    refine k.c59 (fun j hj => ?_)
    show S'.2.1 60 (59 * (min 6 (z + 1) - 1 - 0) + j) = S.2.1 58 j
    rw [e60]
    unfold noted
    by_cases h6 : z = 6
    · subst h6
      rw [if_pos rfl]
      have := cp_at (f := sh (S.2.1 60) 0) (g := S.2.1 58) (a := 295) (b := 0) hj
      rw [Nat.zero_add] at this
      exact this
    · rw [if_neg h6, show min 6 (z + 1) - 1 - 0 = z by omega]
      have := cp_at (f := S.2.1 60) (g := S.2.1 58) (a := 59 * z) (b := 0) hj
      rw [Nat.zero_add] at this
      exact this
  · obtain ⟨y, rfl⟩ : ∃ y, i = y + 1 := ⟨i - 1, by omega⟩
    have hy : y < z := by omega
    have hy5 : y < 5 := by omega
    have es : ((p + 1) % 6 + 5 - (y + 1)) % 6 = (p + 5 - y) % 6 := by omega
    have ne : (p + 5 - y) % 6 ≠ p := by omega
    have lt : (p + 5 - y) % 6 < 6 := Nat.mod_lt _ (by decide)
    rw [es]
    have k := old y hy
    clear es
    generalize (p + 5 - y) % 6 = q at ne lt k ⊢
    have k2 : rMom S'.2.1 (12 + 4 * q) (fun j => S.2.1 60 (59 * (z - 1 - y) + j)) := k.congr (fr _ (by omega) (by omega) (by omega)) (fr _ (by omega) (by omega) (by omega)) (fr _ (by omega) (by omega) (by omega)) (fr _ (by omega) (by omega) (by omega)) e63 rfl
    refine k2.c59 (fun j hj => ?_)
    show S'.2.1 60 (59 * (min 6 (z + 1) - 1 - (y + 1)) + j) = S.2.1 60 (59 * (z - 1 - y) + j)
    rw [e60]
    unfold noted
    by_cases h6 : z = 6
    · subst h6
      rw [if_pos rfl, cp_out (Or.inl (by omega))]
      unfold sh
      rw [if_pos (by omega)]
      exact congrArg (S.2.1 60) (by omega)
    · rw [if_neg h6, cp_out (Or.inl (by omega))]
      exact congrArg (S.2.1 60) (by omega)
/-- class and model, before what is done: both note how it is -/
theorem note_both {S : hS} (h : Rel S) : ∃ S1, Ev 120 [.inr (some (1, 10)), .inr (some (0, 6))] S (none, S1) ∧ hFr S S1 (fun p => 10 ≤ p ∧ p < 36) ∧
    ∀ T : hS, (hLay T) → (∀ p, 57 ≤ p → T.2.1 p = S.2.1 p) → ∃ T1, Ev 14 [.inr (some (10, 57))] T (none, T1) ∧ hFr T T1 (fun p => p = 57 ∨ p = 60) ∧ (∀ k, k ≠ 3 → T1.2.1 57 k = T.2.1 57 k) ∧
      ∀ iv : Nat → Nat → Int32, (∀ p, 10 ≤ p → p < 36 → iv p = S1.2.1 p) → iv 60 = T1.2.1 60 → iv 63 = S.2.1 63 → rPast iv (T1.2.1 57 3) := by
  have hL := h.1
  obtain ⟨p, z, a1, a2, a3, a4, a5, a6⟩ := h.2.2.2.2.1
  have hr := h.2.2.2.1.2.1
  have hm := h.2.2.2.1.1
  obtain ⟨S1, b1, b2, b3, b4, b5⟩ := e_padd p S (lay_past hL) (mom_6 hL) a3 a1 (by rw [hm.1 9 (by decide)]; exact hr.2.2.2.2.2.2.2.2.2.1) (by rw [hm.1 10 (by decide)]; exact hr.2.2.2.2.2.2.2.2.2.2.1) (by rw [hm.1 15 (by decide)]; exact hr.2.2.2.2.2.2.2.2.2.2.2)
  rw [a4, jmin6 a2] at b5
  refine ⟨S1, b1, b3.mono (fun q hq => by rcases hq with rfl | hq <;> omega), fun T hT hrow => ?_⟩
  obtain ⟨T1, c1, c2, c3, c4⟩ := e_notes z T hT a2 (by rw [hrow 57 (by omega)]; exact a5)
  refine ⟨T1, c1, c2, fun k hk => by rw [c4, pk_un hk], fun iv i1 i2 i3 => ?_⟩
  have key := rPast_add (S := S) (S' := (S.1, iv, S.2.2)) (p := p) (z := z) (u := T1.2.1 57 3) a1 a2 a6 h.2.2.2.1 ?_ ?_ ?_ ?_ ?_ ?_ ?_
  · exact key
  · obtain ⟨q1, q2, q3, q4, q5, q6⟩ := b2
    refine ⟨fun j hj => ?_, ?_, ?_, fun j hj => ?_, ?_, ?_⟩
    · show iv (12 + 4 * p + 1) j = _
      rw [i1 _ (by omega) (by omega)]; exact q1 j hj
    · show iv (12 + 4 * p + 2) 1 = _
      rw [i1 _ (by omega) (by omega)]; exact q2
    · show iv (12 + 4 * p + 2) 2 = _
      rw [i1 _ (by omega) (by omega)]; exact q3
    · show iv (12 + 4 * p + 3) j = _
      rw [i1 _ (by omega) (by omega)]; exact q4 j hj
    · show iv (12 + 4 * p) 2 = _
      rw [i1 _ (by omega) (by omega)]; exact q5
    · show iv (12 + 4 * p) 3 = _
      rw [i1 _ (by omega) (by omega)]; exact q6
  · show iv 10 1 = _
    rw [i1 10 (by omega) (by omega)]; exact b4
  · show iv 10 2 = _
    rw [i1 10 (by omega) (by omega)]; exact b5
  · rw [c4, pk_us]
  · show iv 60 = _
    rw [i2, c3, hrow 60 (by omega), hrow 58 (by omega)]
  · exact i3
  · intro q g1 g2 g3
    show iv q = _
    rw [i1 q (by omega) g2]
    exact b3.2.2 q (by omega)
end
section
/-! What is done: blows, ices, grids, wants, resets. -/
theorem rel_done {S S2 : hS} (h : Rel S) (f : hFr S S2 (fun p => p = 57 ∨ p = 58 ∨ p = 60 ∨ (6 ≤ p ∧ p < 36))) (u : ∀ k, k ≠ 3 → S2.2.1 57 k = S.2.1 57 k) (hm : rMom S2.2.1 6 (S2.2.1 58)) (hp : rPast S2.2.1 (S2.2.1 57 3)) : Rel S2 := by
  obtain ⟨a, b, c, -, -, g, i⟩ := h
  have k : ∀ p, ¬ (p = 57 ∨ p = 58 ∨ p = 60 ∨ (6 ≤ p ∧ p < 36)) → S2.2.1 p = S.2.1 p := f.2.2
  refine ⟨a.fr f, ?_, ?_, hm, hp, ?_, ?_⟩
  · rw [k 1 (by omega), k 63 (by omega)]; exact b
  · rw [k 2 (by omega), u 8 (by decide), k 3 (by omega), k 64 (by omega)]; exact c
  · exact g.congr (fun p x y => k p (by omega)) (k _ (by omega)) (k _ (by omega)) (k _ (by omega))
  · rw [k 46 (by omega), u 24 (by decide), k 47 (by omega), k 48 (by omega), k 49 (by omega), k 70 (by omega)]; exact i
/-- one slot of the wheel changes on both sides -/
theorem mRel.slot {m w t a u : Nat → Int32} (h : mRel m w t a u) (k : Nat) (hk : k < 16) (x : Int32) : mRel m (upd w k x) t a (upd u k x) := by
  obtain ⟨h1, h2, h3, h4, n, z, g1, g2, g3, g4, g5⟩ := h
  have e : ∀ j, 16 ≤ j → upd u k x j = u j := fun j hj => pk_un (by omega)
  refine ⟨fun j hj => ?_, by rw [e 16 (by omega)]; exact h2, by rw [e 17 (by omega)]; exact h3, by rw [e 18 (by omega)]; exact h4, n, z, g1, g2, g3, by rw [e 18 (by omega)]; exact g4, fun i hi => by rw [e (19 + i) (by omega)]; exact g5 i hi⟩
  by_cases hj2 : j = k
  · subst hj2; rw [pk_us, pk_us]
  · rw [pk_un hj2, pk_un hj2]; exact h1 j hj
theorem mInv.slot {st u : Nat → Int32} (h : mInv st u) (k : Nat) (hk : k < 16) (x : Int32) (hr : wRng st (upd u k x)) (hp : wPot (upd u k x)) : mInv st (upd u k x) := by
  obtain ⟨-, -, c, d, f⟩ := h
  have e : ∀ j, 16 ≤ j → upd u k x j = u j := fun j hj => pk_un (by omega)
  exact ⟨hr, hp, by rw [e 16 (by omega)]; exact c, by rw [e 18 (by omega)]; exact d, fun i hi => by rw [e (19 + i) (by omega)]; exact f i hi⟩
/-- a slot that the bound doesn't look at -/
theorem wPot.slot {u : Nat → Int32} (h : wPot u) (k : Nat) (hk : 3 ≤ k) (x : Int32) : wPot (upd u k x) := h.congr (pk_un (by omega)) (pk_un (by omega)) (pk_un (by omega))
theorem a_blows {S : hS} (h : Rel S) (x y : Int32) : Alk 136 57 [.inl x, .inl y] S := by
  have hL := h.1
  have hm := h.2.2.2.1
  have m4 : S.2.1 7 4 = S.2.1 58 4 := hm.1.1 4 (by decide)
  have m5 : S.2.1 7 5 = S.2.1 58 5 := hm.1.1 5 (by decide)
  -- refused
  have bad : (mIn x 0 40 = 0 ∨ mIn y 0 35 = 0) → Alk 136 57 [.inl x, .inl y] S := by
    intro q
    refine ⟨-1, S, S, ?_, ?_, h⟩
    · show Rn hc_X9_blows 0 [some (.inr (some (9, 0))), some (.inl x), some (.inl y), none, none] [] S _
      iterate 3 refine r_step rfl rfl ?_
      refine r_call rfl rfl (e_within _ _ _ _) ?_
      refine r_step rfl rfl ?_
      refine r_i_eq (fun _ => ?_) (fun c => ?_)
      · refine r_step rfl rfl ?_
        exact r_reti rfl rfl rfl
      · iterate 3 refine r_step rfl rfl ?_
        refine r_call rfl rfl (e_within _ _ _ _) ?_
        rw [q.resolve_left c]
        iterate 2 refine r_step rfl rfl ?_
        exact r_reti rfl rfl rfl
    · show Rn hc_X10_blows 0 [some (.inr (some (10, 57))), some (.inl x), some (.inl y), none] [] S _
      iterate 3 refine r_step rfl rfl ?_
      refine r_call rfl rfl (e_in _ _ _ _) ?_
      refine r_step rfl rfl ?_
      refine r_i_eq (fun _ => ?_) (fun c => ?_)
      · refine r_step rfl rfl ?_
        exact r_reti rfl rfl rfl
      · iterate 3 refine r_step rfl rfl ?_
        refine r_call rfl rfl (e_in _ _ _ _) ?_
        rw [q.resolve_left c]
        iterate 2 refine r_step rfl rfl ?_
        exact r_reti rfl rfl rfl
  rcases mIn_iff (v := x) (lo := 0) (hi := 40) with ⟨kx, -⟩ | ⟨kx, x1, x2⟩
  · exact bad (Or.inl kx)
  rcases mIn_iff (v := y) (lo := 0) (hi := 35) with ⟨ky, -⟩ | ⟨ky, y1, y2⟩
  · exact bad (Or.inr ky)
  have startC : ∀ o, Rn hc_X9_blows 30 [some (.inr (some (9, 0))), some (.inl x), some (.inl y), some (.inr (some (8, 7))), none] [] S o → Ev 136 [.inr (some (9, 0)), .inl x, .inl y] S o := by
    intro o k
    show Rn hc_X9_blows 0 [some (.inr (some (9, 0))), some (.inl x), some (.inl y), none, none] [] S _
    iterate 3 refine r_step rfl rfl ?_
    refine r_call rfl rfl (e_within _ _ _ _) ?_
    rw [kx]
    iterate 4 refine r_step rfl rfl ?_
    refine r_call rfl rfl (e_within _ _ _ _) ?_
    rw [ky]
    iterate 2 refine r_step rfl rfl ?_
    refine r_getr rfl (rv_0_3 hL) ?_
    refine r_getr rfl (rv_6_0 hL) ?_
    refine r_step rfl rfl ?_
    exact k
  have startM : ∀ (T : hS) o, hLay T → Rn hc_X10_blows 29 [some (.inr (some (10, 57))), some (.inl x), some (.inl y), some (.inl (T.2.1 58 4))] [] T o → Ev 57 [.inr (some (10, 57)), .inl x, .inl y] T o := by
    intro T o hT k
    show Rn hc_X10_blows 0 [some (.inr (some (10, 57))), some (.inl x), some (.inl y), none] [] T _
    iterate 3 refine r_step rfl rfl ?_
    refine r_call rfl rfl (e_in _ _ _ _) ?_
    rw [kx]
    iterate 4 refine r_step rfl rfl ?_
    refine r_call rfl rfl (e_in _ _ _ _) ?_
    rw [ky]
    iterate 2 refine r_step rfl rfl ?_
    refine r_getr rfl (rv_57_0 hT) ?_
    refine r_step rfl rfl ?_
    refine r_iald rfl 4 rfl ⟨⟨by decide, by decide⟩, by decide⟩ ?_
    refine r_step rfl rfl ?_
    exact k
  by_cases same : S.2.1 58 4 = x ∧ S.2.1 58 5 = y
  · refine ⟨-2, S, S, ?_, ?_, h⟩
    · refine startC _ ?_
      iterate 4 refine r_step rfl rfl ?_
      refine r_i_ne (fun q => absurd (m4.trans same.1) q) (fun _ => ?_)
      iterate 4 refine r_step rfl rfl ?_
      refine r_i_ne (fun q => absurd (m5.trans same.2) q) (fun _ => ?_)
      refine r_step rfl rfl ?_
      exact r_reti rfl rfl rfl
    · refine startM S _ hL ?_
      iterate 3 refine r_step rfl rfl ?_
      refine r_i_ne (fun q => absurd same.1 q) (fun _ => ?_)
      refine r_step rfl rfl ?_
      refine r_getr rfl (rv_57_0 hL) ?_
      refine r_step rfl rfl ?_
      refine r_iald rfl 5 rfl ⟨⟨by decide, by decide⟩, by decide⟩ ?_
      iterate 2 refine r_step rfl rfl ?_
      refine r_i_ne (fun q => absurd same.2 q) (fun _ => ?_)
      refine r_step rfl rfl ?_
      exact r_reti rfl rfl rfl
  · obtain ⟨S1, b1, b2, b3⟩ := note_both h
    have w7 : S1.2.1 7 = S.2.1 7 := b2.2.2 7 (by omega)
    have hL2 : hLay (hPut (hPut S1 7 4 x) 7 5 y) := ((hL.fr b2).put _ _ _).put _ _ _
    have e57 : ∀ p, 57 ≤ p → (hPut (hPut S1 7 4 x) 7 5 y).2.1 p = S.2.1 p := fun p hp => by rw [hPut_ne (by omega), hPut_ne (by omega)]; exact b2.2.2 p (by omega)
    obtain ⟨T1, c1, c2, c3, c4⟩ := b3 (hPut (hPut S1 7 4 x) 7 5 y) hL2 e57
    have t58 : T1.2.1 58 = S.2.1 58 := (c2.2.2 58 (by omega)).trans (e57 58 (by omega))
    have hT1 : hLay T1 := hL2.fr c2
    have tlow : ∀ p, p < 57 → T1.2.1 p = (hPut (hPut S1 7 4 x) 7 5 y).2.1 p := fun p hp => c2.2.2 p (by omega)
    refine ⟨S.2.1 58 4, hPut (hPut S1 7 4 x) 7 5 y, hPut (hPut T1 58 4 x) 58 5 y, ?_, ?_, ?_⟩
    · refine startC _ ?_
      have tail : Rn hc_X9_blows 49 [some (.inr (some (9, 0))), some (.inl x), some (.inl y), some (.inr (some (8, 7))), none] [] S (some (S.2.1 58 4), hPut (hPut S1 7 4 x) 7 5 y) := by
        refine r_step rfl rfl ?_
        refine r_getr rfl (rv_0_4 hL) ?_
        refine r_step rfl rfl ?_
        refine r_getr rfl (rv_0_3 hL) ?_
        refine r_callv rfl rfl b1 ?_
        repeat' (first | refine r_reti rfl ?_ rfl | refine r_step rfl rfl ?_ | with_reducible refine r_i_eq (fun c => ?_) (fun c => ?_) | with_reducible refine r_i_ne (fun c => ?_) (fun c => ?_) | with_reducible refine r_i_lt (fun c => ?_) (fun c => ?_) | with_reducible refine r_i_ge (fun c => ?_) (fun c => ?_) | with_reducible refine r_i_gt (fun c => ?_) (fun c => ?_) | with_reducible refine r_i_le (fun c => ?_) (fun c => ?_))
        rw [w7]
        exact m4
      iterate 4 refine r_step rfl rfl ?_
      refine r_i_ne (fun _ => tail) (fun q => ?_)
      iterate 4 refine r_step rfl rfl ?_
      exact r_i_ne (fun _ => tail) (fun q2 => absurd ⟨m4.symm.trans q, m5.symm.trans q2⟩ same)
    · have tail : Rn hc_X10_blows 47 [some (.inr (some (10, 57))), some (.inl x), some (.inl y), some (.inl (S.2.1 58 4))] [] (hPut (hPut S1 7 4 x) 7 5 y) (some (S.2.1 58 4), hPut (hPut T1 58 4 x) 58 5 y) := by
        refine r_step rfl rfl ?_
        refine r_callv rfl rfl c1 ?_
        refine r_step rfl rfl ?_
        refine r_getr rfl (rv_57_0 hT1) ?_
        iterate 2 refine r_step rfl rfl ?_
        refine r_iast0 rfl 4 rfl ⟨⟨by decide, by decide⟩, by decide⟩ ?_
        refine r_step rfl rfl ?_
        refine r_getr rfl (rv_57_0 hT1) ?_
        iterate 2 refine r_step rfl rfl ?_
        refine r_iast0 rfl 5 rfl ⟨⟨by decide, by decide⟩, by decide⟩ ?_
        refine r_step rfl rfl ?_
        exact r_reti rfl rfl rfl
      refine startM _ _ hL2 ?_
      rw [e57 58 (by omega)]
      iterate 3 refine r_step rfl rfl ?_
      refine r_i_ne (fun _ => tail) (fun q => ?_)
      refine r_step rfl rfl ?_
      refine r_getr rfl (rv_57_0 hL2) ?_
      refine r_step rfl rfl ?_
      refine r_iald rfl 5 rfl ⟨⟨by decide, by decide⟩, by decide⟩ ?_
      iterate 2 refine r_step rfl rfl ?_
      refine r_i_ne (fun _ => tail) (fun q2 => absurd ⟨q, by rw [e57 58 (by omega)] at q2; exact q2⟩ same)
    · have f2 : ∀ p, p ≠ 58 → (hPut (hPut T1 58 4 x) 58 5 y).2.1 p = T1.2.1 p := fun p hp => by rw [hPut_ne hp, hPut_ne hp]
      have fS : ∀ p, ¬ (p = 57 ∨ p = 58 ∨ p = 60 ∨ (6 ≤ p ∧ p < 36)) → (hPut (hPut T1 58 4 x) 58 5 y).2.1 p = S.2.1 p := by
        intro p hp
        rw [f2 p (by omega), c2.2.2 p (by omega), hPut_ne (by omega), hPut_ne (by omega)]
        exact b2.2.2 p (by omega)
      have e63 : (hPut (hPut T1 58 4 x) 58 5 y).2.1 63 = S.2.1 63 := fS 63 (by omega)
      refine rel_done h ⟨?_, ?_, fS⟩ ?_ ?_ ?_
      · show T1.1 = S.1
        rw [hT1.1, hL.1]
      · show T1.2.2 = S.2.2
        rw [c2.2.1]
        exact b2.2.1
      · intro k hk
        rw [f2 57 (by decide), c3 k hk, e57 57 (by omega)]
      · have r58 : (hPut (hPut T1 58 4 x) 58 5 y).2.1 58 = upd (upd (S.2.1 58) 4 x) 5 y := by rw [hPut_at, hPut_at, t58]
        have r7 : (hPut (hPut T1 58 4 x) 58 5 y).2.1 7 = upd (upd (S.2.1 7) 4 x) 5 y := by rw [f2 7 (by decide), tlow 7 (by omega), hPut_at, hPut_at, w7]
        have rr : ∀ p, p = 6 ∨ p = 8 ∨ p = 9 → (hPut (hPut T1 58 4 x) 58 5 y).2.1 p = S.2.1 p := by
          intro p hp
          rw [f2 p (by omega), tlow p (by omega), hPut_ne (by omega), hPut_ne (by omega)]
          exact b2.2.2 p (by omega)
        have i0 := hm.2
        have s4 := h.2.1.1.2.2.2.2.1
        obtain ⟨r0, r1, r2, r3, r4, r5, r6, r7', r8, r9, r10, r15⟩ := i0.1
        have i1 : mInv (S.2.1 63) (upd (S.2.1 58) 4 x) := i0.slot 4 (by decide) x ⟨r0, r1, r2, r3, ⟨x1, x2⟩, r5, r6, r7', r8, r9, r10, r15⟩ (i0.2.1.slot 4 (by decide) x)
        have i2 : mInv (S.2.1 63) (upd (upd (S.2.1 58) 4 x) 5 y) := i1.slot 5 (by decide) y ⟨r0, r1, r2, r3, ⟨x1, x2⟩, ⟨y1, y2⟩, r6, r7', r8, r9, r10, r15⟩ (i1.2.1.slot 5 (by decide) y)
        unfold rMom
        rw [r58, e63, rr 6 (by omega), r7, rr 8 (by omega), rr 9 (by omega)]
        exact ⟨(hm.1.slot 4 (by decide) x).slot 5 (by decide) y, i2⟩
      · have e3 : (hPut (hPut T1 58 4 x) 58 5 y).2.1 57 3 = T1.2.1 57 3 := by rw [f2 57 (by decide)]
        rw [e3]
        refine c4 _ (fun p g1 g2 => ?_) (f2 60 (by decide)) e63
        rw [f2 p (by omega), tlow p (by omega), hPut_ne (by omega), hPut_ne (by omega)]
end
section
/-- one slot is changed on both sides, behind the note -/
theorem done_slot {S : hS} (h : Rel S) (k : Nat) (x : Int32) (hk : k < 16) (hr : wRng (S.2.1 63) (upd (S.2.1 58) k x)) (hp : wPot (upd (S.2.1 58) k x)) : ∃ S1 T1, Ev 120 [.inr (some (1, 10)), .inr (some (0, 6))] S (none, S1) ∧ hFr S S1 (fun p => 10 ≤ p ∧ p < 36) ∧ hLay (hPut S1 7 k x) ∧ (∀ p, 57 ≤ p → (hPut S1 7 k x).2.1 p = S.2.1 p) ∧ Ev 14 [.inr (some (10, 57))] (hPut S1 7 k x) (none, T1) ∧ hLay T1 ∧ T1.2.1 58 = S.2.1 58 ∧ Rel (hPut T1 58 k x) := by
  have hL := h.1
  have hm := h.2.2.2.1
  obtain ⟨S1, b1, b2, b3⟩ := note_both h
  have w7 : S1.2.1 7 = S.2.1 7 := b2.2.2 7 (by omega)
  have hL2 : hLay (hPut S1 7 k x) := (hL.fr b2).put _ _ _
  have e57 : ∀ p, 57 ≤ p → (hPut S1 7 k x).2.1 p = S.2.1 p := fun p hp => by rw [hPut_ne (by omega)]; exact b2.2.2 p (by omega)
  obtain ⟨T1, c1, c2, c3, c4⟩ := b3 (hPut S1 7 k x) hL2 e57
  have t58 : T1.2.1 58 = S.2.1 58 := (c2.2.2 58 (by omega)).trans (e57 58 (by omega))
  have hT1 : hLay T1 := hL2.fr c2
  have tlow : ∀ p, p < 57 → T1.2.1 p = (hPut S1 7 k x).2.1 p := fun p hp => c2.2.2 p (by omega)
  refine ⟨S1, T1, b1, b2, hL2, e57, c1, hT1, t58, ?_⟩
  have f2 : ∀ p, p ≠ 58 → (hPut T1 58 k x).2.1 p = T1.2.1 p := fun p hp => hPut_ne hp
  have fS : ∀ p, ¬ (p = 57 ∨ p = 58 ∨ p = 60 ∨ (6 ≤ p ∧ p < 36)) → (hPut T1 58 k x).2.1 p = S.2.1 p := by
    intro p hp
    rw [f2 p (by omega), c2.2.2 p (by omega), hPut_ne (by omega)]
    exact b2.2.2 p (by omega)
  have e63 : (hPut T1 58 k x).2.1 63 = S.2.1 63 := fS 63 (by omega)
  refine rel_done h ⟨?_, ?_, fS⟩ ?_ ?_ ?_
  · show T1.1 = S.1
    rw [hT1.1, hL.1]
  · show T1.2.2 = S.2.2
    rw [c2.2.1]
    exact b2.2.1
  · intro k hk
    rw [f2 57 (by decide), c3 k hk, e57 57 (by omega)]
  · have r58 : (hPut T1 58 k x).2.1 58 = upd (S.2.1 58) k x := by rw [hPut_at, t58]
    have r7 : (hPut T1 58 k x).2.1 7 = upd (S.2.1 7) k x := by rw [f2 7 (by decide), tlow 7 (by omega), hPut_at, w7]
    have rr : ∀ p, p = 6 ∨ p = 8 ∨ p = 9 → (hPut T1 58 k x).2.1 p = S.2.1 p := by
      intro p hp
      rw [f2 p (by omega), tlow p (by omega), hPut_ne (by omega)]
      exact b2.2.2 p (by omega)
    unfold rMom
    rw [r58, e63, rr 6 (by omega), r7, rr 8 (by omega), rr 9 (by omega)]
    exact ⟨hm.1.slot k hk x, hm.2.slot k hk x hr hp⟩
  · have e3 : (hPut T1 58 k x).2.1 57 3 = T1.2.1 57 3 := by rw [f2 57 (by decide)]
    rw [e3]
    refine c4 _ (fun p g1 g2 => ?_) (f2 60 (by decide)) e63
    rw [f2 p (by omega), tlow p (by omega), hPut_ne (by omega)]
theorem a_ices {S : hS} (h : Rel S) (x : Int32) : Alk 141 62 [.inl x] S := by
  have hL := h.1
  have hm := h.2.2.2.1
  have m8 : S.2.1 7 8 = S.2.1 58 8 := hm.1.1 8 (by decide)
  rcases mIn_iff (v := x) (lo := 0) (hi := 5) with ⟨kx, -⟩ | ⟨kx, x1, x2⟩
  · refine ⟨-1, S, S, ?_, ?_, h⟩
    · show Rn hc_X9_ices 0 [some (.inr (some (9, 0))), some (.inl x), none, none] [] S _
      iterate 3 refine r_step rfl rfl ?_
      refine r_call rfl rfl (e_within _ _ _ _) ?_
      rw [kx]
      iterate 2 refine r_step rfl rfl ?_
      exact r_reti rfl rfl rfl
    · show Rn hc_X10_ices 0 [some (.inr (some (10, 57))), some (.inl x), none] [] S _
      iterate 3 refine r_step rfl rfl ?_
      refine r_call rfl rfl (e_in _ _ _ _) ?_
      rw [kx]
      iterate 2 refine r_step rfl rfl ?_
      exact r_reti rfl rfl rfl
  have startC : ∀ o, Rn hc_X9_ices 19 [some (.inr (some (9, 0))), some (.inl x), some (.inr (some (8, 7))), none] [] S o → Ev 141 [.inr (some (9, 0)), .inl x] S o := by
    intro o k
    show Rn hc_X9_ices 0 [some (.inr (some (9, 0))), some (.inl x), none, none] [] S _
    iterate 3 refine r_step rfl rfl ?_
    refine r_call rfl rfl (e_within _ _ _ _) ?_
    rw [kx]
    iterate 2 refine r_step rfl rfl ?_
    refine r_getr rfl (rv_0_3 hL) ?_
    refine r_getr rfl (rv_6_0 hL) ?_
    refine r_step rfl rfl ?_
    exact k
  have startM : ∀ (T : hS) o, hLay T → Rn hc_X10_ices 19 [some (.inr (some (10, 57))), some (.inl x), some (.inl (T.2.1 58 8))] [] T o → Ev 62 [.inr (some (10, 57)), .inl x] T o := by
    intro T o hT k
    show Rn hc_X10_ices 0 [some (.inr (some (10, 57))), some (.inl x), none] [] T _
    iterate 3 refine r_step rfl rfl ?_
    refine r_call rfl rfl (e_in _ _ _ _) ?_
    rw [kx]
    iterate 2 refine r_step rfl rfl ?_
    refine r_getr rfl (rv_57_0 hT) ?_
    refine r_step rfl rfl ?_
    refine r_iald rfl 8 rfl ⟨⟨by decide, by decide⟩, by decide⟩ ?_
    refine r_step rfl rfl ?_
    exact k
  by_cases same : S.2.1 58 8 = x
  · refine ⟨-2, S, S, startC _ ?_, startM S _ hL ?_, h⟩
    · iterate 4 refine r_step rfl rfl ?_
      refine r_i_ne (fun q => absurd (m8.trans same) q) (fun _ => ?_)
      refine r_step rfl rfl ?_
      exact r_reti rfl rfl rfl
    · iterate 3 refine r_step rfl rfl ?_
      refine r_i_ne (fun q => absurd same q) (fun _ => ?_)
      refine r_step rfl rfl ?_
      exact r_reti rfl rfl rfl
  · obtain ⟨r0, r1, r2, r3, r4, r5, r6, r7, r8, r9, r10, r15⟩ := hm.2.1
    obtain ⟨S1, T1, d1, d2, d3, d4, d5, d6, d7, d8⟩ := done_slot h 8 x (by decide) ⟨r0, r1, r2, r3, r4, r5, r6, r7, ⟨x1, x2⟩, r9, r10, r15⟩ (hm.2.2.1.slot 8 (by decide) x)
    refine ⟨S.2.1 58 8, hPut S1 7 8 x, hPut T1 58 8 x, startC _ ?_, startM _ _ d3 ?_, d8⟩
    · iterate 4 refine r_step rfl rfl ?_
      refine r_i_ne (fun _ => ?_) (fun q => absurd (m8.symm.trans q) same)
      refine r_step rfl rfl ?_
      refine r_getr rfl (rv_0_4 hL) ?_
      refine r_step rfl rfl ?_
      refine r_getr rfl (rv_0_3 hL) ?_
      refine r_callv rfl rfl d1 ?_
      repeat' (first | refine r_reti rfl ?_ rfl | refine r_step rfl rfl ?_ | with_reducible refine r_i_eq (fun c => ?_) (fun c => ?_) | with_reducible refine r_i_ne (fun c => ?_) (fun c => ?_) | with_reducible refine r_i_lt (fun c => ?_) (fun c => ?_) | with_reducible refine r_i_ge (fun c => ?_) (fun c => ?_) | with_reducible refine r_i_gt (fun c => ?_) (fun c => ?_) | with_reducible refine r_i_le (fun c => ?_) (fun c => ?_))
      rw [d2.2.2 7 (by omega)]
      exact m8
    · rw [d4 58 (by omega)]
      iterate 3 refine r_step rfl rfl ?_
      refine r_i_ne (fun _ => ?_) (fun q => absurd q same)
      refine r_step rfl rfl ?_
      refine r_callv rfl rfl d5 ?_
      refine r_step rfl rfl ?_
      refine r_getr rfl (rv_57_0 d6) ?_
      iterate 2 refine r_step rfl rfl ?_
      refine r_iast0 rfl 8 rfl ⟨⟨by decide, by decide⟩, by decide⟩ ?_
      refine r_step rfl rfl ?_
      exact r_reti rfl rfl rfl
end
section
theorem a_grids {S : hS} (h : Rel S) (x : Int32) : Alk 138 100 [.inl x] S := by
  have hL := h.1
  have hm := h.2.2.2.1
  have m0 : S.2.1 7 0 = S.2.1 58 0 := hm.1.1 0 (by decide)
  have mk : S.2.1 7 9 = S.2.1 58 9 := hm.1.1 9 (by decide)
  rcases mIn_iff (v := x) (lo := 0) (hi := 1) with ⟨kx, -⟩ | ⟨kx, x1, x2⟩
  · refine ⟨-1, S, S, ?_, ?_, h⟩
    · show Rn hc_X9_grids 0 [some (.inr (some (9, 0))), some (.inl x), none] [] S _
      iterate 3 refine r_step rfl rfl ?_
      refine r_call rfl rfl (e_within _ _ _ _) ?_
      rw [kx]
      iterate 2 refine r_step rfl rfl ?_
      exact r_reti rfl rfl rfl
    · have b : Ev 56 [.inr (some (10, 57)), .inl 9, .inl x] S (some (-1), S) := by
        show Rn hc_X10_becomes 0 [some (.inr (some (10, 57))), some (.inl 9), some (.inl x)] [] S _
        iterate 3 refine r_step rfl rfl ?_
        refine r_call rfl rfl (e_in _ _ _ _) ?_
        rw [kx]
        iterate 2 refine r_step rfl rfl ?_
        exact r_reti rfl rfl rfl
      show Rn hc_X10_grids 0 [some (.inr (some (10, 57))), some (.inl x)] [] S _
      iterate 3 refine r_step rfl rfl ?_
      refine r_call rfl rfl b ?_
      exact r_reti rfl rfl rfl
  have hx : x = 0 ∨ x = 1 := by
    obtain ⟨j, hj, rfl⟩ := bt_nI (hi := 1) (x := x) ⟨x1, x2⟩ (by decide)
    match j, hj with
    | 0, _ => exact Or.inl rfl
    | 1, _ => exact Or.inr rfl
    | n + 2, h => exact absurd h (by omega)
  have startC : ∀ o, Rn hc_X9_grids 33 [some (.inr (some (9, 0))), some (.inl x), some (.inr (some (8, 7)))] [.inl x, .inl (S.2.1 7 9)] S o → Ev 138 [.inr (some (9, 0)), .inl x] S o := by
    intro o k
    show Rn hc_X9_grids 0 [some (.inr (some (9, 0))), some (.inl x), none] [] S _
    iterate 3 refine r_step rfl rfl ?_
    refine r_call rfl rfl (e_within _ _ _ _) ?_
    rw [kx]
    iterate 2 refine r_step rfl rfl ?_
    refine r_getr rfl (rv_0_3 hL) ?_
    refine r_getr rfl (rv_6_0 hL) ?_
    iterate 6 refine r_step rfl rfl ?_
    rcases hx with rfl | rfl
    · refine r_i_ne (fun _ => ?_) (fun q => absurd q (by decide))
      refine r_step rfl rfl ?_
      exact k
    · refine r_i_ne (fun q => absurd rfl q) (fun _ => ?_)
      iterate 2 refine r_step rfl rfl ?_
      exact k
  have startM : ∀ (T : hS) r T', hLay T → Rn hc_X10_becomes 17 [some (.inr (some (10, 57))), some (.inl 9), some (.inl x)] [.inl (T.2.1 58 9)] T (some r, T') → Ev 100 [.inr (some (10, 57)), .inl x] T (some r, T') := by
    intro T r T' hT k
    have b : Ev 56 [.inr (some (10, 57)), .inl 9, .inl x] T (some r, T') := by
      show Rn hc_X10_becomes 0 [some (.inr (some (10, 57))), some (.inl 9), some (.inl x)] [] T _
      iterate 3 refine r_step rfl rfl ?_
      refine r_call rfl rfl (e_in _ _ _ _) ?_
      rw [kx]
      iterate 2 refine r_step rfl rfl ?_
      refine r_getr rfl (rv_57_0 hT) ?_
      refine r_step rfl rfl ?_
      refine r_iald rfl 9 rfl ⟨⟨by decide, by decide⟩, by decide⟩ ?_
      exact k
    show Rn hc_X10_grids 0 [some (.inr (some (10, 57))), some (.inl x)] [] T _
    iterate 3 refine r_step rfl rfl ?_
    refine r_call rfl rfl b ?_
    exact r_reti rfl rfl rfl
  by_cases same : S.2.1 58 9 = x
  · refine ⟨-2, S, S, startC _ ?_, startM S _ _ hL ?_, h⟩
    · refine r_step rfl rfl ?_
      refine r_i_ne (fun q => absurd (mk.trans same) q) (fun _ => ?_)
      refine r_step rfl rfl ?_
      exact r_reti rfl rfl rfl
    · iterate 2 refine r_step rfl rfl ?_
      refine r_i_ne (fun q => absurd same q) (fun _ => ?_)
      refine r_step rfl rfl ?_
      exact r_reti rfl rfl rfl
  · obtain ⟨r0, r1, r2, r3, r4, r5, r6, r7, r8, r9, r10, r15⟩ := hm.2.1
    obtain ⟨S1, T1, d1, d2, d3, d4, d5, d6, d7, d8⟩ := done_slot h 9 x (by decide) ⟨r0, r1, r2, r3, r4, r5, r6, r7, r8, hx, r10, r15⟩ (hm.2.2.1.slot 9 (by decide) x)
    refine ⟨S.2.1 58 0, hPut S1 7 9 x, hPut T1 58 9 x, startC _ ?_, startM _ _ _ d3 ?_, d8⟩
    · refine r_step rfl rfl ?_
      refine r_i_ne (fun _ => ?_) (fun q => absurd (mk.symm.trans q) same)
      refine r_step rfl rfl ?_
      refine r_getr rfl (rv_0_4 hL) ?_
      refine r_step rfl rfl ?_
      refine r_getr rfl (rv_0_3 hL) ?_
      refine r_callv rfl rfl d1 ?_
      iterate 4 refine r_step rfl rfl ?_
      have tail : Rn hc_X9_grids 61 [some (.inr (some (9, 0))), some (.inl x), some (.inr (some (8, 7)))] [.inl x, .inr (some (8, 7))] S1 (some (S.2.1 58 0), hPut S1 7 9 x) := by
        refine r_putz0 rfl hx ?_
        iterate 2 refine r_step rfl rfl ?_
        refine r_reti rfl ?_ rfl
        rw [hPut_at, pk_un (by decide), d2.2.2 7 (by omega)]
        exact m0
      rcases hx with rfl | rfl
      · refine r_i_ne (fun _ => ?_) (fun q => absurd q (by decide))
        refine r_step rfl rfl ?_
        exact tail
      · refine r_i_ne (fun q => absurd rfl q) (fun _ => ?_)
        iterate 2 refine r_step rfl rfl ?_
        exact tail
    · rw [d4 58 (by omega)]
      iterate 2 refine r_step rfl rfl ?_
      refine r_i_ne (fun _ => ?_) (fun q => absurd q same)
      refine r_step rfl rfl ?_
      refine r_callv rfl rfl d5 ?_
      refine r_step rfl rfl ?_
      refine r_getr rfl (rv_57_0 d6) ?_
      iterate 2 refine r_step rfl rfl ?_
      refine r_iast0 rfl 9 rfl ⟨⟨by decide, by decide⟩, by decide⟩ ?_
      refine r_step rfl rfl ?_
      refine r_getr rfl (rv_57_0 d6) ?_
      refine r_step rfl rfl ?_
      refine r_iald rfl 0 rfl ⟨⟨by decide, by decide⟩, by decide⟩ ?_
      refine r_reti rfl ?_ rfl
      rw [hPut_at, pk_un (by decide), d7]
theorem a_wants {S : hS} (h : Rel S) (x : Int32) : Alk 148 105 [.inl x] S := by
  have hL := h.1
  have hm := h.2.2.2.1
  have m0 : S.2.1 7 0 = S.2.1 58 0 := hm.1.1 0 (by decide)
  have mk : S.2.1 7 10 = S.2.1 58 10 := hm.1.1 10 (by decide)
  rcases mIn_iff (v := x) (lo := 0) (hi := 1) with ⟨kx, -⟩ | ⟨kx, x1, x2⟩
  · refine ⟨-1, S, S, ?_, ?_, h⟩
    · show Rn hc_X9_wants 0 [some (.inr (some (9, 0))), some (.inl x), none] [] S _
      iterate 3 refine r_step rfl rfl ?_
      refine r_call rfl rfl (e_within _ _ _ _) ?_
      rw [kx]
      iterate 2 refine r_step rfl rfl ?_
      exact r_reti rfl rfl rfl
    · have b : Ev 56 [.inr (some (10, 57)), .inl 10, .inl x] S (some (-1), S) := by
        show Rn hc_X10_becomes 0 [some (.inr (some (10, 57))), some (.inl 10), some (.inl x)] [] S _
        iterate 3 refine r_step rfl rfl ?_
        refine r_call rfl rfl (e_in _ _ _ _) ?_
        rw [kx]
        iterate 2 refine r_step rfl rfl ?_
        exact r_reti rfl rfl rfl
      show Rn hc_X10_wants 0 [some (.inr (some (10, 57))), some (.inl x)] [] S _
      iterate 3 refine r_step rfl rfl ?_
      refine r_call rfl rfl b ?_
      exact r_reti rfl rfl rfl
  have hx : x = 0 ∨ x = 1 := by
    obtain ⟨j, hj, rfl⟩ := bt_nI (hi := 1) (x := x) ⟨x1, x2⟩ (by decide)
    match j, hj with
    | 0, _ => exact Or.inl rfl
    | 1, _ => exact Or.inr rfl
    | n + 2, h => exact absurd h (by omega)
  have startC : ∀ o, Rn hc_X9_wants 33 [some (.inr (some (9, 0))), some (.inl x), some (.inr (some (8, 7)))] [.inl x, .inl (S.2.1 7 10)] S o → Ev 148 [.inr (some (9, 0)), .inl x] S o := by
    intro o k
    show Rn hc_X9_wants 0 [some (.inr (some (9, 0))), some (.inl x), none] [] S _
    iterate 3 refine r_step rfl rfl ?_
    refine r_call rfl rfl (e_within _ _ _ _) ?_
    rw [kx]
    iterate 2 refine r_step rfl rfl ?_
    refine r_getr rfl (rv_0_3 hL) ?_
    refine r_getr rfl (rv_6_0 hL) ?_
    iterate 6 refine r_step rfl rfl ?_
    rcases hx with rfl | rfl
    · refine r_i_ne (fun _ => ?_) (fun q => absurd q (by decide))
      refine r_step rfl rfl ?_
      exact k
    · refine r_i_ne (fun q => absurd rfl q) (fun _ => ?_)
      iterate 2 refine r_step rfl rfl ?_
      exact k
  have startM : ∀ (T : hS) r T', hLay T → Rn hc_X10_becomes 17 [some (.inr (some (10, 57))), some (.inl 10), some (.inl x)] [.inl (T.2.1 58 10)] T (some r, T') → Ev 105 [.inr (some (10, 57)), .inl x] T (some r, T') := by
    intro T r T' hT k
    have b : Ev 56 [.inr (some (10, 57)), .inl 10, .inl x] T (some r, T') := by
      show Rn hc_X10_becomes 0 [some (.inr (some (10, 57))), some (.inl 10), some (.inl x)] [] T _
      iterate 3 refine r_step rfl rfl ?_
      refine r_call rfl rfl (e_in _ _ _ _) ?_
      rw [kx]
      iterate 2 refine r_step rfl rfl ?_
      refine r_getr rfl (rv_57_0 hT) ?_
      refine r_step rfl rfl ?_
      refine r_iald rfl 10 rfl ⟨⟨by decide, by decide⟩, by decide⟩ ?_
      exact k
    show Rn hc_X10_wants 0 [some (.inr (some (10, 57))), some (.inl x)] [] T _
    iterate 3 refine r_step rfl rfl ?_
    refine r_call rfl rfl b ?_
    exact r_reti rfl rfl rfl
  by_cases same : S.2.1 58 10 = x
  · refine ⟨-2, S, S, startC _ ?_, startM S _ _ hL ?_, h⟩
    · refine r_step rfl rfl ?_
      refine r_i_ne (fun q => absurd (mk.trans same) q) (fun _ => ?_)
      refine r_step rfl rfl ?_
      exact r_reti rfl rfl rfl
    · iterate 2 refine r_step rfl rfl ?_
      refine r_i_ne (fun q => absurd same q) (fun _ => ?_)
      refine r_step rfl rfl ?_
      exact r_reti rfl rfl rfl
  · obtain ⟨r0, r1, r2, r3, r4, r5, r6, r7, r8, r9, r10, r15⟩ := hm.2.1
    obtain ⟨S1, T1, d1, d2, d3, d4, d5, d6, d7, d8⟩ := done_slot h 10 x (by decide) ⟨r0, r1, r2, r3, r4, r5, r6, r7, r8, r9, hx, r15⟩ (hm.2.2.1.slot 10 (by decide) x)
    refine ⟨S.2.1 58 0, hPut S1 7 10 x, hPut T1 58 10 x, startC _ ?_, startM _ _ _ d3 ?_, d8⟩
    · refine r_step rfl rfl ?_
      refine r_i_ne (fun _ => ?_) (fun q => absurd (mk.symm.trans q) same)
      refine r_step rfl rfl ?_
      refine r_getr rfl (rv_0_4 hL) ?_
      refine r_step rfl rfl ?_
      refine r_getr rfl (rv_0_3 hL) ?_
      refine r_callv rfl rfl d1 ?_
      iterate 4 refine r_step rfl rfl ?_
      have tail : Rn hc_X9_wants 61 [some (.inr (some (9, 0))), some (.inl x), some (.inr (some (8, 7)))] [.inl x, .inr (some (8, 7))] S1 (some (S.2.1 58 0), hPut S1 7 10 x) := by
        refine r_putz0 rfl hx ?_
        iterate 2 refine r_step rfl rfl ?_
        refine r_reti rfl ?_ rfl
        rw [hPut_at, pk_un (by decide), d2.2.2 7 (by omega)]
        exact m0
      rcases hx with rfl | rfl
      · refine r_i_ne (fun _ => ?_) (fun q => absurd q (by decide))
        refine r_step rfl rfl ?_
        exact tail
      · refine r_i_ne (fun q => absurd rfl q) (fun _ => ?_)
        iterate 2 refine r_step rfl rfl ?_
        exact tail
    · rw [d4 58 (by omega)]
      iterate 2 refine r_step rfl rfl ?_
      refine r_i_ne (fun _ => ?_) (fun q => absurd q same)
      refine r_step rfl rfl ?_
      refine r_callv rfl rfl d5 ?_
      refine r_step rfl rfl ?_
      refine r_getr rfl (rv_57_0 d6) ?_
      iterate 2 refine r_step rfl rfl ?_
      refine r_iast0 rfl 10 rfl ⟨⟨by decide, by decide⟩, by decide⟩ ?_
      refine r_step rfl rfl ?_
      refine r_getr rfl (rv_57_0 d6) ?_
      refine r_step rfl rfl ?_
      refine r_iald rfl 0 rfl ⟨⟨by decide, by decide⟩, by decide⟩ ?_
      refine r_reti rfl ?_ rfl
      rw [hPut_at, pk_un (by decide), d7]
theorem a_resets {S : hS} (h : Rel S) : Alk 145 67 [] S := by
  have hL := h.1
  have hm := h.2.2.2.1
  have m0 : S.2.1 7 0 = S.2.1 58 0 := hm.1.1 0 (by decide)
  have m1 : S.2.1 7 1 = S.2.1 58 1 := hm.1.1 1 (by decide)
  have m6 : S.2.1 7 6 = S.2.1 58 6 := hm.1.1 6 (by decide)
  have startC : ∀ o, Rn hc_X9_resets 8 [some (.inr (some (9, 0))), some (.inr (some (8, 7)))] [] S o → Ev 145 [.inr (some (9, 0))] S o := by
    intro o k
    show Rn hc_X9_resets 0 [some (.inr (some (9, 0))), none] [] S _
    refine r_step rfl rfl ?_
    refine r_getr rfl (rv_0_3 hL) ?_
    refine r_getr rfl (rv_6_0 hL) ?_
    refine r_step rfl rfl ?_
    exact k
  have startM : ∀ (T : hS) o, hLay T → Rn hc_X10_resets 6 [some (.inr (some (10, 57)))] [.inl (T.2.1 58 0)] T o → Ev 67 [.inr (some (10, 57))] T o := by
    intro T o hT k
    show Rn hc_X10_resets 0 [some (.inr (some (10, 57)))] [] T _
    refine r_step rfl rfl ?_
    refine r_getr rfl (rv_57_0 hT) ?_
    refine r_step rfl rfl ?_
    refine r_iald rfl 0 rfl ⟨⟨by decide, by decide⟩, by decide⟩ ?_
    exact k
  by_cases ok : S.2.1 58 0 = 5 ∧ S.2.1 58 1 = 0
  · obtain ⟨r0, r1, r2, r3, r4, r5, r6, r7, r8, r9, r10, r15⟩ := hm.2.1
    have pot : wPot (upd (S.2.1 58) 0 0) := by
      obtain ⟨p1, p2, p3⟩ := hm.2.2.1
      have e1 : upd (S.2.1 58) 0 0 1 = 0 := (pk_un (by decide)).trans ok.2
      have e2 : upd (S.2.1 58) 0 0 2 = S.2.1 58 2 := pk_un (by decide)
      have e0 : upd (S.2.1 58) 0 0 0 = 0 := pk_us
      unfold wPot
      rw [e0, e1, e2]
      refine ⟨fun _ => ?_, fun q => absurd rfl q, fun q => absurd q (by decide)⟩
      have q := p3 ok.1
      rw [ok.2, i_z] at q
      have g6 : 6 ≤ (S.2.1 58 2).toInt := by omega
      have g90 := r2.2
      have := sq_le (a := 90 - (S.2.1 58 2).toInt) (b := 84) (by omega) (by omega)
      rw [i_z]
      omega
    obtain ⟨S1, T1, d1, d2, d3, d4, d5, d6, d7, d8⟩ := done_slot h 0 0 (by decide) ⟨Or.inl rfl, r1, r2, r3, r4, r5, r6, r7, r8, r9, r10, r15⟩ pot
    refine ⟨S.2.1 58 6, hPut S1 7 0 0, hPut T1 58 0 0, startC _ ?_, startM _ _ d3 ?_, d8⟩
    · iterate 4 refine r_step rfl rfl ?_
      refine r_i_ne (fun q => absurd (m0.trans ok.1) q) (fun _ => ?_)
      iterate 3 refine r_step rfl rfl ?_
      refine r_i_eq (fun _ => ?_) (fun q => absurd (m1.trans ok.2) q)
      refine r_step rfl rfl ?_
      refine r_getr rfl (rv_0_4 hL) ?_
      refine r_step rfl rfl ?_
      refine r_getr rfl (rv_0_3 hL) ?_
      refine r_callv rfl rfl d1 ?_
      repeat' (first | refine r_reti rfl ?_ rfl | refine r_step rfl rfl ?_ | with_reducible refine r_i_eq (fun c => ?_) (fun c => ?_) | with_reducible refine r_i_ne (fun c => ?_) (fun c => ?_) | with_reducible refine r_i_lt (fun c => ?_) (fun c => ?_) | with_reducible refine r_i_ge (fun c => ?_) (fun c => ?_) | with_reducible refine r_i_gt (fun c => ?_) (fun c => ?_) | with_reducible refine r_i_le (fun c => ?_) (fun c => ?_))
      rw [hPut_at, pk_un (by decide), d2.2.2 7 (by omega)]
      exact m6
    · rw [d4 58 (by omega)]
      iterate 2 refine r_step rfl rfl ?_
      refine r_i_ne (fun q => absurd ok.1 q) (fun _ => ?_)
      refine r_step rfl rfl ?_
      refine r_getr rfl (rv_57_0 d3) ?_
      refine r_step rfl rfl ?_
      refine r_iald rfl 1 rfl ⟨⟨by decide, by decide⟩, by decide⟩ ?_
      rw [d4 58 (by omega)]
      refine r_step rfl rfl ?_
      refine r_i_eq (fun _ => ?_) (fun q => absurd ok.2 q)
      refine r_step rfl rfl ?_
      refine r_callv rfl rfl d5 ?_
      refine r_step rfl rfl ?_
      refine r_getr rfl (rv_57_0 d6) ?_
      iterate 2 refine r_step rfl rfl ?_
      refine r_iast0 rfl 0 rfl ⟨⟨by decide, by decide⟩, by decide⟩ ?_
      refine r_step rfl rfl ?_
      refine r_getr rfl (rv_57_0 d6) ?_
      refine r_step rfl rfl ?_
      refine r_iald rfl 6 rfl ⟨⟨by decide, by decide⟩, by decide⟩ ?_
      refine r_reti rfl ?_ rfl
      rw [hPut_at, pk_un (by decide), d7]
  · refine ⟨-2, S, S, startC _ ?_, startM S _ hL ?_, h⟩
    · have tail : Rn hc_X9_resets 23 [some (.inr (some (9, 0))), some (.inr (some (8, 7)))] [] S (some (-2), S) := by
        refine r_step rfl rfl ?_
        exact r_reti rfl rfl rfl
      iterate 4 refine r_step rfl rfl ?_
      refine r_i_ne (fun _ => tail) (fun q => ?_)
      iterate 3 refine r_step rfl rfl ?_
      exact r_i_eq (fun q2 => absurd ⟨m0.symm.trans q, m1.symm.trans q2⟩ ok) (fun _ => tail)
    · have tail : Rn hc_X10_resets 19 [some (.inr (some (10, 57)))] [] S (some (-2), S) := by
        refine r_step rfl rfl ?_
        exact r_reti rfl rfl rfl
      iterate 2 refine r_step rfl rfl ?_
      refine r_i_ne (fun _ => tail) (fun q => ?_)
      refine r_step rfl rfl ?_
      refine r_getr rfl (rv_57_0 hL) ?_
      refine r_step rfl rfl ?_
      refine r_iald rfl 1 rfl ⟨⟨by decide, by decide⟩, by decide⟩ ?_
      refine r_step rfl rfl ?_
      exact r_i_eq (fun q2 => absurd ⟨q, q2⟩ ok) (fun _ => tail)
end
section
/-! record, now. -/
theorem a_record {S : hS} (h : Rel S) (k : Int32) : Alk 113 18 [.inl k] S := by
  have hL := h.1
  obtain ⟨h1, h2, h3, h4, n, z, g1, g2, g3, g4, g5⟩ := h.2.2.2.1.1
  by_cases c0 : 0 ≤ k
  · have c0' : ¬ k < 0 := by rw [i_lt]; rw [i_le] at c0; omega
    have sp := e_speedAgo 8 9 k n z S (rv_8_0 hL) g3 g1 (show S.2.1 8 2 = nI z by rw [← g4]; exact h4) g2
    rw [if_neg c0'] at sp
    have startC : ∀ r, Ev 86 [.inr (some (7, 8)), .inl k] S (some r, S) → Ev 113 [.inr (some (9, 0)), .inl k] S (some r, S) := by
      intro r q
      show Rn hc_X9_record 0 [some (.inr (some (9, 0))), some (.inl k)] [] S _
      iterate 2 refine r_step rfl rfl ?_
      refine r_i_ge (fun _ => ?_) (fun q => absurd c0 q)
      refine r_step rfl rfl ?_
      refine r_getr rfl (rv_0_3 hL) ?_
      refine r_getr rfl (rv_6_1 hL) ?_
      refine r_step rfl rfl ?_
      refine r_call rfl rfl q ?_
      exact r_reti rfl rfl rfl
    have startM : ∀ o, Rn hc_X10_record 14 [some (.inr (some (10, 57))), some (.inl k)] [.inl (nI z), .inl k] S o → Ev 18 [.inr (some (10, 57)), .inl k] S o := by
      intro o q
      show Rn hc_X10_record 0 [some (.inr (some (10, 57))), some (.inl k)] [] S _
      iterate 2 refine r_step rfl rfl ?_
      refine r_i_ge (fun _ => ?_) (fun q => absurd c0 q)
      iterate 2 refine r_step rfl rfl ?_
      refine r_getr rfl (rv_57_0 hL) ?_
      refine r_step rfl rfl ?_
      refine r_iald rfl 18 rfl ⟨⟨by decide, by decide⟩, by decide⟩ ?_
      rw [g4]
      exact q
    by_cases c1 : k < nI z
    · rw [if_pos c1] at sp
      obtain ⟨j, hj, rfl⟩ := nI_of c0'
      have hjz : j < z := (nI_ltI hj (by omega)).mp c1
      rw [nI_clamp hj] at sp
      refine ⟨_, S, S, startC _ sp, startM _ ?_, h⟩
      refine r_step rfl rfl ?_
      refine r_i_ge (fun q => absurd q (nI_ge hjz (by omega))) (fun _ => ?_)
      refine r_step rfl rfl ?_
      refine r_getr rfl (rv_57_0 hL) ?_
      iterate 3 refine r_step rfl rfl ?_
      rw [show (19 : Int32) + nI j = nI (19 + j) from nI_add 19 j]
      refine r_iald rfl (19 + j) (ti (by omega)) ⟨⟨by decide, by decide⟩, by show 19 + j < 59; omega⟩ ?_
      refine r_step rfl rfl ?_
      exact r_reti rfl (g5 j hjz).symm rfl
    · rw [if_neg c1] at sp
      refine ⟨_, S, S, startC _ sp, startM _ ?_, h⟩
      refine r_step rfl rfl ?_
      refine r_i_ge (fun _ => ?_) (fun q => absurd (by rw [i_le]; rw [i_lt] at c1; omega) q)
      refine r_step rfl rfl ?_
      exact r_reti rfl rfl rfl
  · refine ⟨-1, S, S, ?_, ?_, h⟩
    · show Rn hc_X9_record 0 [some (.inr (some (9, 0))), some (.inl k)] [] S _
      iterate 2 refine r_step rfl rfl ?_
      refine r_i_ge (fun q => absurd q c0) (fun _ => ?_)
      iterate 2 refine r_step rfl rfl ?_
      exact r_reti rfl rfl rfl
    · show Rn hc_X10_record 0 [some (.inr (some (10, 57))), some (.inl k)] [] S _
      iterate 2 refine r_step rfl rfl ?_
      refine r_i_ge (fun q => absurd q c0) (fun _ => ?_)
      refine r_step rfl rfl ?_
      exact r_reti rfl rfl rfl
def wTell (w : Nat → Int32) (j : Nat) : Int32 := if j < 16 then w j else if j = 16 then wDrive w (wError w) else wError w
theorem wTell_lo (w : Nat → Int32) {j : Nat} (h : j < 16) : wTell w j = w j := if_pos h
theorem wTell_16 (w : Nat → Int32) : wTell w 16 = wDrive w (wError w) := (if_neg (by decide)).trans (if_pos rfl)
theorem wTell_17 (w : Nat → Int32) : wTell w 17 = wError w := (if_neg (by decide)).trans (if_neg (by decide))
theorem e_tell (S : hS) (c j : Nat) (hj : j < 18) (b9 : isB (S.2.1 c 9)) (b10 : isB (S.2.1 c 10)) (b15 : isB (S.2.1 c 15)) : Ev 112 [.inr (some (8, c)), .inl (nI j)] S (some (wTell (S.2.1 c) j), S) := by
  show Rn hc_X8_tell 0 [some (.inr (some (8, c))), some (.inl (nI j))] [] S _
  refine r_step rfl rfl ?_
  match j, hj with
  | 0, _ =>
    rw [wTell_lo _ (by decide)]
    refine r_tsw 84 rfl (by decide) ?_
    iterate 2 refine r_step rfl rfl ?_
    exact r_reti rfl rfl rfl
  | 1, _ =>
    rw [wTell_lo _ (by decide)]
    refine r_tsw 89 rfl (by decide) ?_
    iterate 2 refine r_step rfl rfl ?_
    exact r_reti rfl rfl rfl
  | 2, _ =>
    rw [wTell_lo _ (by decide)]
    refine r_tsw 94 rfl (by decide) ?_
    iterate 2 refine r_step rfl rfl ?_
    exact r_reti rfl rfl rfl
  | 3, _ =>
    rw [wTell_lo _ (by decide)]
    refine r_tsw 99 rfl (by decide) ?_
    iterate 2 refine r_step rfl rfl ?_
    exact r_reti rfl rfl rfl
  | 4, _ =>
    rw [wTell_lo _ (by decide)]
    refine r_tsw 104 rfl (by decide) ?_
    iterate 2 refine r_step rfl rfl ?_
    exact r_reti rfl rfl rfl
  | 5, _ =>
    rw [wTell_lo _ (by decide)]
    refine r_tsw 109 rfl (by decide) ?_
    iterate 2 refine r_step rfl rfl ?_
    exact r_reti rfl rfl rfl
  | 6, _ =>
    rw [wTell_lo _ (by decide)]
    refine r_tsw 114 rfl (by decide) ?_
    iterate 2 refine r_step rfl rfl ?_
    exact r_reti rfl rfl rfl
  | 7, _ =>
    rw [wTell_lo _ (by decide)]
    refine r_tsw 119 rfl (by decide) ?_
    iterate 2 refine r_step rfl rfl ?_
    exact r_reti rfl rfl rfl
  | 8, _ =>
    rw [wTell_lo _ (by decide)]
    refine r_tsw 124 rfl (by decide) ?_
    iterate 2 refine r_step rfl rfl ?_
    exact r_reti rfl rfl rfl
  | 9, _ =>
    rw [wTell_lo _ (by decide)]
    refine r_tsw 129 rfl (by decide) ?_
    iterate 3 refine r_step rfl rfl ?_
    rcases b9 with b | b
    · refine r_i_eq (fun _ => ?_) (fun q => absurd b q)
      refine r_step rfl rfl ?_
      exact r_reti rfl b.symm rfl
    · refine r_i_eq (fun q => absurd (b.symm.trans q) (by decide)) (fun _ => ?_)
      iterate 2 refine r_step rfl rfl ?_
      exact r_reti rfl b.symm rfl
  | 10, _ =>
    rw [wTell_lo _ (by decide)]
    refine r_tsw 142 rfl (by decide) ?_
    iterate 3 refine r_step rfl rfl ?_
    rcases b10 with b | b
    · refine r_i_eq (fun _ => ?_) (fun q => absurd b q)
      refine r_step rfl rfl ?_
      exact r_reti rfl b.symm rfl
    · refine r_i_eq (fun q => absurd (b.symm.trans q) (by decide)) (fun _ => ?_)
      iterate 2 refine r_step rfl rfl ?_
      exact r_reti rfl b.symm rfl
  | 11, _ =>
    rw [wTell_lo _ (by decide)]
    refine r_tsw 155 rfl (by decide) ?_
    iterate 2 refine r_step rfl rfl ?_
    exact r_reti rfl rfl rfl
  | 12, _ =>
    rw [wTell_lo _ (by decide)]
    refine r_tsw 160 rfl (by decide) ?_
    iterate 2 refine r_step rfl rfl ?_
    exact r_reti rfl rfl rfl
  | 13, _ =>
    rw [wTell_lo _ (by decide)]
    refine r_tsw 165 rfl (by decide) ?_
    iterate 2 refine r_step rfl rfl ?_
    exact r_reti rfl rfl rfl
  | 14, _ =>
    rw [wTell_lo _ (by decide)]
    refine r_tsw 170 rfl (by decide) ?_
    iterate 2 refine r_step rfl rfl ?_
    exact r_reti rfl rfl rfl
  | 15, _ =>
    rw [wTell_lo _ (by decide)]
    refine r_tsw 175 rfl (by decide) ?_
    iterate 3 refine r_step rfl rfl ?_
    rcases b15 with b | b
    · refine r_i_eq (fun _ => ?_) (fun q => absurd b q)
      refine r_step rfl rfl ?_
      exact r_reti rfl b.symm rfl
    · refine r_i_eq (fun q => absurd (b.symm.trans q) (by decide)) (fun _ => ?_)
      iterate 2 refine r_step rfl rfl ?_
      exact r_reti rfl b.symm rfl
  | 16, _ =>
    rw [wTell_16]
    refine r_tsw 188 rfl (by decide) ?_
    iterate 2 refine r_step rfl rfl ?_
    refine r_call rfl rfl (e_error c S) ?_
    refine r_call rfl rfl (e_drive c _ S) ?_
    exact r_reti rfl rfl rfl
  | 17, _ =>
    rw [wTell_17]
    refine r_tsw 197 rfl (by decide) ?_
    refine r_step rfl rfl ?_
    refine r_call rfl rfl (e_error c S) ?_
    exact r_reti rfl rfl rfl
  | n + 18, h => exact absurd h (by omega)
theorem wDrive_congr {u v : Nat → Int32} (h2 : u 2 = v 2) (h4 : u 4 = v 4) (h8 : u 8 = v 8) (e : Int32) : wDrive u e = wDrive v e := by
  unfold wDrive
  rw [h2, h4, h8]
theorem a_now {S : hS} (h : Rel S) (x : Int32) : Alk 128 118 [.inl x] S := by
  have hL := h.1
  have hm := h.2.2.2.1
  have m := hm.1.1
  have hr := hm.2.1
  rcases mIn_iff (v := x) (lo := 0) (hi := 17) with ⟨kx, -⟩ | ⟨kx, x1, x2⟩
  · refine ⟨-1000000, S, S, ?_, ?_, h⟩
    · show Rn hc_X9_now 0 [some (.inr (some (9, 0))), some (.inl x)] [] S _
      iterate 3 refine r_step rfl rfl ?_
      refine r_call rfl rfl (e_within _ _ _ _) ?_
      rw [kx]
      iterate 2 refine r_step rfl rfl ?_
      exact r_reti rfl rfl rfl
    · show Rn hc_X10_now 0 [some (.inr (some (10, 57))), some (.inl x)] [] S _
      iterate 3 refine r_step rfl rfl ?_
      refine r_call rfl rfl (e_in _ _ _ _) ?_
      rw [kx]
      iterate 2 refine r_step rfl rfl ?_
      exact r_reti rfl rfl rfl
  obtain ⟨j, hj, rfl⟩ := bt_nI (hi := 17) (x := x) ⟨x1, x2⟩ (by decide)
  have tl := e_tell S 7 j (by omega) (by rw [show S.2.1 7 9 = _ from m 9 (by decide)]; exact hr.2.2.2.2.2.2.2.2.2.1) (by rw [show S.2.1 7 10 = _ from m 10 (by decide)]; exact hr.2.2.2.2.2.2.2.2.2.2.1) (by rw [show S.2.1 7 15 = _ from m 15 (by decide)]; exact hr.2.2.2.2.2.2.2.2.2.2.2)
  have startM : ∀ o, Rn hc_X10_now 13 [some (.inr (some (10, 57))), some (.inl (nI j))] [] S o → Ev 118 [.inr (some (10, 57)), .inl (nI j)] S o := by
    intro o k
    show Rn hc_X10_now 0 [some (.inr (some (10, 57))), some (.inl (nI j))] [] S _
    iterate 3 refine r_step rfl rfl ?_
    refine r_call rfl rfl (e_in _ _ _ _) ?_
    rw [kx]
    refine r_step rfl rfl ?_
    exact k
  refine ⟨wTell (S.2.1 7) j, S, S, ?_, startM _ ?_, h⟩
  · show Rn hc_X9_now 0 [some (.inr (some (9, 0))), some (.inl (nI j))] [] S _
    iterate 3 refine r_step rfl rfl ?_
    refine r_call rfl rfl (e_within _ _ _ _) ?_
    rw [kx]
    iterate 2 refine r_step rfl rfl ?_
    refine r_getr rfl (rv_0_3 hL) ?_
    refine r_getr rfl (rv_6_0 hL) ?_
    refine r_step rfl rfl ?_
    refine r_call rfl rfl tl ?_
    refine r_step rfl rfl ?_
    exact r_reti rfl rfl rfl
  · have er := err_eq (w := S.2.1 58) hr.2.2.2.2.2.1 hr.2.2.2.2.2.2.1
    have e7 : wError (S.2.1 7) = wError (S.2.1 58) := wError_congr (m 5 (by decide)) (m 6 (by decide))
    rcases Nat.lt_or_ge j 16 with c | c
    · iterate 3 refine r_step rfl rfl ?_
      refine r_i_ge (fun q => absurd q (lt_lit (N := 16) rfl (by decide) c)) (fun _ => ?_)
      refine r_step rfl rfl ?_
      refine r_getr rfl (rv_57_0 hL) ?_
      refine r_step rfl rfl ?_
      refine r_iald rfl j (ti (by omega)) ⟨⟨by decide, by decide⟩, by show j < 59; omega⟩ ?_
      refine r_step rfl rfl ?_
      refine r_reti rfl ?_ rfl
      unfold wTell
      rw [if_pos c]
      exact (m j c).symm
    · have g : (16 : Int32) ≤ nI j := nI_le (a := 16) c (by omega)
      iterate 3 refine r_step rfl rfl ?_
      refine r_i_ge (fun _ => ?_) (fun q => absurd g q)
      by_cases c2 : j = 16
      · subst c2
        iterate 3 refine r_step rfl rfl ?_
        refine r_i_ne (fun q => absurd rfl q) (fun _ => ?_)
        iterate 2 refine r_step rfl rfl ?_
        refine r_getr rfl (rv_57_0 hL) ?_
        refine r_call rfl rfl (e_driveOf 58 S) ?_
        refine r_step rfl rfl ?_
        refine r_reti rfl ?_ rfl
        rw [mDrive_eq hr.2.2.2.2.2.1 hr.2.2.2.2.2.2.1]
        unfold wTell
        rw [if_neg (by decide), if_pos rfl, e7]
        exact (wDrive_congr (m 2 (by decide)) (m 4 (by decide)) (m 8 (by decide)) _).symm
      · iterate 3 refine r_step rfl rfl ?_
        refine r_i_ne (fun _ => ?_) (fun q => absurd ((nI_eq (b := 16) (by omega) (by omega)).mp q) c2)
        iterate 2 refine r_step rfl rfl ?_
        refine r_getr rfl (rv_57_0 hL) ?_
        refine r_call rfl rfl (e_errorOf 58 S) ?_
        refine r_reti rfl ?_ rfl
        rw [er.1]
        unfold wTell
        rw [if_neg (by omega), if_neg c2, e7]
end
section
/-! undo, keep, back. -/
set_option maxHeartbeats 4000000 in
set_option maxRecDepth 100000 in
theorem undo_l (y : Nat) (hy : y < 6) : ∀ (d k : Nat) (T : hS) (o : Option Int32 × hS), k + d = 59 → hLay T → T.2.1 57 3 = nI y → Rn hc_X10_undo 54 [some (.inr (some (10, 57))), some (.inl (nI 59))] [] (hRow T 58 (cp (T.2.1 58) (T.2.1 60) 0 (59 * y) k 59)) o → Rn hc_X10_undo 22 [some (.inr (some (10, 57))), some (.inl (nI k))] [] T o := by
  intro d
  induction d with
  | zero =>
    intro k T o hk hL hu kk
    have : k = 59 := by omega
    subst this
    rw [cp_end, hRow_self] at kk
    iterate 3 refine r_step rfl rfl ?_
    refine r_i_ge (fun _ => kk) (fun q => absurd (show (59 : Int32) ≤ nI 59 by decide) q)
  | succ d ih =>
    intro k T o hk hL hu kk
    have hkl : k < 59 := by omega
    iterate 3 refine r_step rfl rfl ?_
    refine r_i_ge (fun q => absurd q (lt_lit (N := 59) rfl (by decide) hkl)) (fun _ => ?_)
    refine r_step rfl rfl ?_
    refine r_getr rfl (rv_57_0 hL) ?_
    iterate 2 refine r_step rfl rfl ?_
    refine r_getr rfl (rv_57_2 hL) ?_
    iterate 6 refine r_step rfl rfl ?_
    rw [hu, show (59 : Int32) * nI y = nI (59 * y) from mul_lit rfl, nI_add]
    refine r_iald rfl (59 * y + k) (ti (by omega)) ⟨⟨by decide, by decide⟩, by show 59 * y + k < 354; omega⟩ ?_
    refine r_iast0 rfl k (ti (by omega)) ⟨⟨by decide, by decide⟩, by show k < 59; omega⟩ ?_
    iterate 2 refine r_step rfl rfl ?_
    show Rn hc_X10_undo 22 [some (.inr (some (10, 57))), some (.inl (nI k + 1))] [] _ _
    rw [nI_s1]
    refine ih (k + 1) _ o (by omega) (hL.put _ _ _) (by rw [hPut_ne (by decide)]; exact hu) ?_
    have e := cp_step (T.2.1 58) (T.2.1 60) 0 (59 * y) hkl
    rw [Nat.zero_add] at e
    rw [hPut_at, hPut_ne (show 60 ≠ 58 by decide), hPut_eq, hRow_row, e]
    exact kk
/-- a moment of the class's and its row, at another place -/
theorem rMom.bits {iv : Nat → Nat → Int32} {c : Nat} {u : Nat → Int32} (h : rMom iv c u) : isB (iv (c + 1) 9) ∧ isB (iv (c + 1) 10) ∧ isB (iv (c + 1) 15) := by
  have hr := h.2.1
  refine ⟨?_, ?_, ?_⟩
  · rw [h.1.1 9 (by decide)]; exact hr.2.2.2.2.2.2.2.2.2.1
  · rw [h.1.1 10 (by decide)]; exact hr.2.2.2.2.2.2.2.2.2.2.1
  · rw [h.1.1 15 (by decide)]; exact hr.2.2.2.2.2.2.2.2.2.2.2
theorem a_undo {S : hS} (h : Rel S) : Alk 147 23 [] S := by
  have hL := h.1
  obtain ⟨p, z, a1, a2, a3, a4, a5, a6⟩ := h.2.2.2.2.1
  rcases Nat.eq_zero_or_pos z with z0 | z0
  · subst z0
    refine ⟨-2, S, S, ?_, ?_, h⟩
    · show Rn hc_X9_undo 0 [some (.inr (some (9, 0)))] [] S _
      refine r_step rfl rfl ?_
      refine r_getr rfl (rv_0_4 hL) ?_
      iterate 2 refine r_step rfl rfl ?_
      refine r_i_ne (fun q => absurd a4 q) (fun _ => ?_)
      refine r_step rfl rfl ?_
      exact r_reti rfl rfl rfl
    · show Rn hc_X10_undo 0 [some (.inr (some (10, 57))), none] [] S _
      iterate 3 refine r_step rfl rfl ?_
      refine r_i_ne (fun q => absurd a5 q) (fun _ => ?_)
      refine r_step rfl rfl ?_
      exact r_reti rfl rfl rfl
  · obtain ⟨y, rfl⟩ : ∃ y, z = y + 1 := ⟨z - 1, by omega⟩
    have nz : ¬ nI (y + 1) = 0 := fun q => absurd ((nI_eq (a := y + 1) (b := 0) (by omega) (by omega)).mp q) (by omega)
    have m0 := a6 0 (by omega)
    rw [show p + 5 - 0 = p + 5 by omega, show y + 1 - 1 - 0 = y by omega] at m0
    have hq : (p + 5) % 6 < 6 := Nat.mod_lt _ (by decide)
    have bb := m0.bits
    have ex : 12 + 4 * ((p + 5) % 6) + 1 = 13 + 4 * ((p + 5) % 6) := by omega
    rw [ex] at bb
    obtain ⟨S1, b1, b2, b3, b4, b5⟩ := e_ptake p (y + 1) S (lay_past hL) (mom_6 hL) a3 a1 a4 (by omega) a2 bb.1 bb.2.1 bb.2.2
    have hL1 := hL.fr b3
    have f1 : ∀ q, q ≠ 10 → (q < 6 ∨ 10 ≤ q) → S1.2.1 q = S.2.1 q := fun q n1 n2 => b3.2.2 q (by omega)
    have e57 : S1.2.1 57 = S.2.1 57 := f1 57 (by omega) (by omega)
    have hL2 : hLay (hPut S1 57 3 (nI y)) := hL1.put _ _ _
    refine ⟨nI y, S1, hRow (hPut S1 57 3 (nI y)) 58 (cp ((hPut S1 57 3 (nI y)).2.1 58) ((hPut S1 57 3 (nI y)).2.1 60) 0 (59 * y) 0 59), ?_, ?_, ?_⟩
    · show Rn hc_X9_undo 0 [some (.inr (some (9, 0)))] [] S _
      refine r_step rfl rfl ?_
      refine r_getr rfl (rv_0_4 hL) ?_
      iterate 2 refine r_step rfl rfl ?_
      refine r_i_ne (fun _ => ?_) (fun q => absurd (a4.symm.trans q) nz)
      refine r_step rfl rfl ?_
      refine r_getr rfl (rv_0_4 hL) ?_
      refine r_step rfl rfl ?_
      refine r_getr rfl (rv_0_3 hL) ?_
      refine r_callv rfl rfl b1 ?_
      refine r_step rfl rfl ?_
      refine r_getr rfl (rv_0_4 hL1) ?_
      refine r_step rfl rfl ?_
      exact r_reti rfl b5 rfl
    · show Rn hc_X10_undo 0 [some (.inr (some (10, 57))), none] [] S1 _
      iterate 3 refine r_step rfl rfl ?_
      refine r_i_ne (fun _ => ?_) (fun q => absurd (a5.symm.trans ((congrFun e57 3).symm.trans q)) nz)
      iterate 6 refine r_step rfl rfl ?_
      rw [e57, a5, show nI (y + 1) - 1 = nI y from nI_pred y]
      iterate 2 refine r_step rfl rfl ?_
      refine undo_l y (by omega) 59 0 (hPut S1 57 3 (nI y)) _ (by omega) hL2 (by rw [hPut_at, pk_us]) ?_
      iterate 2 refine r_step rfl rfl ?_
      refine r_reti rfl ?_ rfl
      rw [hRow_ne _ _ (show 57 ≠ 58 by decide), hPut_at, pk_us]
    · rw [hPut_ne (show 60 ≠ 57 by decide), hPut_ne (show 58 ≠ 57 by decide), f1 58 (by omega) (by omega), f1 60 (by omega) (by omega)]
      have g : ∀ q, q ≠ 57 → q ≠ 58 → (hRow (hPut S1 57 3 (nI y)) 58 (cp (S.2.1 58) (S.2.1 60) 0 (59 * y) 0 59)).2.1 q = S1.2.1 q := fun q n1 n2 => by rw [hRow_ne _ _ n2, hPut_ne n1]
      have g57 : (hRow (hPut S1 57 3 (nI y)) 58 (cp (S.2.1 58) (S.2.1 60) 0 (59 * y) 0 59)).2.1 57 = upd (S.2.1 57) 3 (nI y) := by rw [hRow_ne _ _ (show 57 ≠ 58 by decide), hPut_at, e57]
      have g58 : (hRow (hPut S1 57 3 (nI y)) 58 (cp (S.2.1 58) (S.2.1 60) 0 (59 * y) 0 59)).2.1 58 = cp (S.2.1 58) (S.2.1 60) 0 (59 * y) 0 59 := hRow_at _ _ _
      have hL3 : hLay (hRow (hPut S1 57 3 (nI y)) 58 (cp (S.2.1 58) (S.2.1 60) 0 (59 * y) 0 59)) := hL2.row _ _
      generalize hRow (hPut S1 57 3 (nI y)) 58 (cp (S.2.1 58) (S.2.1 60) 0 (59 * y) 0 59) = S2 at *
      have k : ∀ q, q ≠ 57 → q ≠ 58 → q ≠ 10 → (q < 6 ∨ 10 ≤ q) → S2.2.1 q = S.2.1 q := fun q n1 n2 n3 n4 => (g q n1 n2).trans (f1 q n3 n4)
      refine ⟨hL3, ?_, ?_, ?_, ?_, ?_, ?_⟩
      · rw [k 1 (by omega) (by omega) (by omega) (by omega), k 63 (by omega) (by omega) (by omega) (by omega)]; exact h.2.1
      · rw [k 2 (by omega) (by omega) (by omega) (by omega), k 3 (by omega) (by omega) (by omega) (by omega), k 64 (by omega) (by omega) (by omega) (by omega), g57, pk_un (by decide)]; exact h.2.2.1
      · have c1 := m0.1.copy b2
        have c2 : rMom S2.2.1 6 (fun j => S.2.1 60 (59 * y + j)) := by
          refine ⟨?_, ?_⟩
          · show mRel (S2.2.1 6) (S2.2.1 7) (S2.2.1 8) (S2.2.1 9) _
            rw [g 6 (by omega) (by omega), g 7 (by omega) (by omega), g 8 (by omega) (by omega), g 9 (by omega) (by omega)]
            exact c1
          · rw [k 63 (by omega) (by omega) (by omega) (by omega)]; exact m0.2
        refine c2.c59 (fun j hj => ?_)
        rw [g58]
        have := cp_at (f := S.2.1 58) (g := S.2.1 60) (a := 0) (b := 59 * y) hj
        rw [Nat.zero_add] at this
        exact this
      · refine ⟨(p + 5) % 6, y, hq, by omega, by rw [g 10 (by omega) (by omega)]; exact b4, by rw [g 10 (by omega) (by omega)]; exact b5, by rw [g57, pk_us], fun i hi => ?_⟩
        have m1 := a6 (i + 1) (by omega)
        have es : ((p + 5) % 6 + 5 - i) % 6 = (p + 5 - (i + 1)) % 6 := by omega
        rw [es]
        have lt : (p + 5 - (i + 1)) % 6 < 6 := Nat.mod_lt _ (by decide)
        clear es
        generalize (p + 5 - (i + 1)) % 6 = t at lt m1 ⊢
        refine m1.congr (k _ (by omega) (by omega) (by omega) (by omega)) (k _ (by omega) (by omega) (by omega) (by omega)) (k _ (by omega) (by omega) (by omega) (by omega)) (k _ (by omega) (by omega) (by omega) (by omega)) (k _ (by omega) (by omega) (by omega) (by omega)) ?_
        rw [k 60 (by omega) (by omega) (by omega) (by omega), show y + 1 - 1 - (i + 1) = y - 1 - i by omega]
      · exact h.2.2.2.2.2.1.congr (fun q n1 n2 => k q (by omega) (by omega) (by omega) (by omega)) (k 61 (by omega) (by omega) (by omega) (by omega)) (k 62 (by omega) (by omega) (by omega) (by omega)) (k 63 (by omega) (by omega) (by omega) (by omega))
      · rw [k 46 (by omega) (by omega) (by omega) (by omega), k 47 (by omega) (by omega) (by omega) (by omega), k 48 (by omega) (by omega) (by omega) (by omega), k 49 (by omega) (by omega) (by omega) (by omega), k 70 (by omega) (by omega) (by omega) (by omega), g57, pk_un (by decide)]; exact h.2.2.2.2.2.2
end
section
/-! keep, back. -/
theorem lay_img {S : hS} (h : hLay S) {k : Nat} (hk : k < 2) : S.2.2 36 k = some (0, 37 + 4 * k) ∧ isMom S (37 + 4 * k) := by
  match k, hk with
  | 0, _ => exact ⟨rv_36_0 h, mom_37 h⟩
  | 1, _ => exact ⟨rv_36_1 h, mom_41 h⟩
  | n + 2, h => exact absurd h (by omega)
set_option maxHeartbeats 4000000 in
set_option maxRecDepth 100000 in
theorem keep_l (y : Nat) (hy : y < 2) : ∀ (d k : Nat) (T : hS) (o : Option Int32 × hS), k + d = 59 → hLay T → Rn hc_X10_keep 42 [some (.inr (some (10, 57))), some (.inl (nI y)), some (.inl (nI 59))] [] (hRow T 61 (cp (T.2.1 61) (T.2.1 58) (59 * y) 0 k 59)) o → Rn hc_X10_keep 13 [some (.inr (some (10, 57))), some (.inl (nI y)), some (.inl (nI k))] [] T o := by
  intro d
  induction d with
  | zero =>
    intro k T o hk hL kk
    have : k = 59 := by omega
    subst this
    rw [cp_end, hRow_self] at kk
    iterate 3 refine r_step rfl rfl ?_
    refine r_i_ge (fun _ => kk) (fun q => absurd (show (59 : Int32) ≤ nI 59 by decide) q)
  | succ d ih =>
    intro k T o hk hL kk
    have hkl : k < 59 := by omega
    iterate 3 refine r_step rfl rfl ?_
    refine r_i_ge (fun q => absurd q (lt_lit (N := 59) rfl (by decide) hkl)) (fun _ => ?_)
    refine r_step rfl rfl ?_
    refine r_getr rfl (rv_57_4 hL) ?_
    iterate 5 refine r_step rfl rfl ?_
    rw [show (59 : Int32) * nI y = nI (59 * y) from mul_lit rfl, nI_add]
    refine r_step rfl rfl ?_
    refine r_getr rfl (rv_57_0 hL) ?_
    refine r_step rfl rfl ?_
    refine r_iald rfl k (ti (by omega)) ⟨⟨by decide, by decide⟩, by show k < 59; omega⟩ ?_
    refine r_iast0 rfl (59 * y + k) (ti (by omega)) ⟨⟨by decide, by decide⟩, by show 59 * y + k < 118; omega⟩ ?_
    iterate 2 refine r_step rfl rfl ?_
    show Rn hc_X10_keep 13 [some (.inr (some (10, 57))), some (.inl (nI y)), some (.inl (nI k + 1))] [] _ _
    rw [nI_s1]
    refine ih (k + 1) _ o (by omega) (hL.put _ _ _) ?_
    have e := cp_step (T.2.1 61) (T.2.1 58) (59 * y) 0 hkl
    rw [Nat.zero_add] at e
    rw [hPut_at, hPut_ne (show 58 ≠ 61 by decide), hPut_eq, hRow_row, e]
    exact kk
set_option maxHeartbeats 4000000 in
set_option maxRecDepth 100000 in
theorem back_l (y : Nat) (hy : y < 2) : ∀ (d k : Nat) (T : hS) (o : Option Int32 × hS), k + d = 59 → hLay T → Rn hc_X10_back 54 [some (.inr (some (10, 57))), some (.inl (nI y)), some (.inl (nI 59))] [] (hRow T 58 (cp (T.2.1 58) (T.2.1 61) 0 (59 * y) k 59)) o → Rn hc_X10_back 25 [some (.inr (some (10, 57))), some (.inl (nI y)), some (.inl (nI k))] [] T o := by
  intro d
  induction d with
  | zero =>
    intro k T o hk hL kk
    have : k = 59 := by omega
    subst this
    rw [cp_end, hRow_self] at kk
    iterate 3 refine r_step rfl rfl ?_
    refine r_i_ge (fun _ => kk) (fun q => absurd (show (59 : Int32) ≤ nI 59 by decide) q)
  | succ d ih =>
    intro k T o hk hL kk
    have hkl : k < 59 := by omega
    iterate 3 refine r_step rfl rfl ?_
    refine r_i_ge (fun q => absurd q (lt_lit (N := 59) rfl (by decide) hkl)) (fun _ => ?_)
    refine r_step rfl rfl ?_
    refine r_getr rfl (rv_57_0 hL) ?_
    iterate 2 refine r_step rfl rfl ?_
    refine r_getr rfl (rv_57_4 hL) ?_
    iterate 5 refine r_step rfl rfl ?_
    rw [show (59 : Int32) * nI y = nI (59 * y) from mul_lit rfl, nI_add]
    refine r_iald rfl (59 * y + k) (ti (by omega)) ⟨⟨by decide, by decide⟩, by show 59 * y + k < 118; omega⟩ ?_
    refine r_iast0 rfl k (ti (by omega)) ⟨⟨by decide, by decide⟩, by show k < 59; omega⟩ ?_
    iterate 2 refine r_step rfl rfl ?_
    show Rn hc_X10_back 25 [some (.inr (some (10, 57))), some (.inl (nI y)), some (.inl (nI k + 1))] [] _ _
    rw [nI_s1]
    refine ih (k + 1) _ o (by omega) (hL.put _ _ _) ?_
    have e := cp_step (T.2.1 58) (T.2.1 61) 0 (59 * y) hkl
    rw [Nat.zero_add] at e
    rw [hPut_at, hPut_ne (show 61 ≠ 58 by decide), hPut_eq, hRow_row, e]
    exact kk
theorem a_keep {S : hS} (h : Rel S) (x : Int32) : Alk 127 66 [.inl x] S := by
  have hL := h.1
  rcases mIn_iff (v := x) (lo := 0) (hi := 1) with ⟨kx, -⟩ | ⟨kx, x1, x2⟩
  · refine ⟨-1, S, S, ?_, ?_, h⟩
    · show Rn hc_X9_keep 0 [some (.inr (some (9, 0))), some (.inl x)] [] S _
      iterate 3 refine r_step rfl rfl ?_
      refine r_call rfl rfl (e_within _ _ _ _) ?_
      rw [kx]
      iterate 2 refine r_step rfl rfl ?_
      exact r_reti rfl rfl rfl
    · show Rn hc_X10_keep 0 [some (.inr (some (10, 57))), some (.inl x), none] [] S _
      iterate 3 refine r_step rfl rfl ?_
      refine r_call rfl rfl (e_in _ _ _ _) ?_
      rw [kx]
      iterate 2 refine r_step rfl rfl ?_
      exact r_reti rfl rfl rfl
  obtain ⟨k, hk, rfl⟩ := bt_nI (hi := 1) (x := x) ⟨x1, x2⟩ (by decide)
  have hk2 : k < 2 := by omega
  obtain ⟨i1, i2⟩ := lay_img hL hk2
  have pr := h.2.2.2.1
  have bb := pr.bits
  obtain ⟨S1, b1, b2, b3⟩ := e_mcopy (37 + 4 * k) 6 S i2 (mom_6 hL) (Or.inr (by omega)) bb.1 bb.2.1 bb.2.2
  have hL1 := hL.fr b3
  have hL2 : hLay (hPut S1 45 k 1) := hL1.put _ _ _
  have f1 : ∀ q, (q < 37 + 4 * k ∨ 41 + 4 * k ≤ q) → S1.2.1 q = S.2.1 q := fun q n1 => b3.2.2 q (by omega)
  refine ⟨S.2.1 6 2, hPut S1 45 k 1, hPut (hRow (hPut S1 45 k 1) 61 (cp ((hPut S1 45 k 1).2.1 61) ((hPut S1 45 k 1).2.1 58) (59 * k) 0 0 59)) 62 k 1, ?_, ?_, ?_⟩
  · show Rn hc_X9_keep 0 [some (.inr (some (9, 0))), some (.inl (nI k))] [] S _
    iterate 3 refine r_step rfl rfl ?_
    refine r_call rfl rfl (e_within _ _ _ _) ?_
    rw [kx]
    iterate 2 refine r_step rfl rfl ?_
    refine r_getr rfl (rv_0_5 hL) ?_
    refine r_step rfl rfl ?_
    refine r_aald rfl k (ti (by omega)) ⟨⟨by decide, by decide⟩, by show k < 2; omega⟩ i1 ?_
    refine r_step rfl rfl ?_
    refine r_getr rfl (rv_0_3 hL) ?_
    refine r_callv rfl rfl b1 ?_
    refine r_step rfl rfl ?_
    refine r_getr rfl (rv_0_6 hL1) ?_
    iterate 2 refine r_step rfl rfl ?_
    refine r_bast rfl k (ti (by omega)) ⟨⟨by decide, by decide⟩, by show k < 2; omega⟩ (Or.inr rfl) (fun _ e => ?_)
    subst e
    refine r_step rfl rfl ?_
    refine r_getr rfl (rv_0_3 hL2) ?_
    refine r_step rfl rfl ?_
    refine r_reti rfl ?_ rfl
    rw [hPut_ne (by decide), f1 6 (by omega)]
  · show Rn hc_X10_keep 0 [some (.inr (some (10, 57))), some (.inl (nI k)), none] [] (hPut S1 45 k 1) _
    iterate 3 refine r_step rfl rfl ?_
    refine r_call rfl rfl (e_in _ _ _ _) ?_
    rw [kx]
    iterate 3 refine r_step rfl rfl ?_
    refine keep_l k hk2 59 0 (hPut S1 45 k 1) _ (by omega) hL2 ?_
    refine r_step rfl rfl ?_
    refine r_getr rfl (rv_57_5 (hL2.row _ _)) ?_
    iterate 2 refine r_step rfl rfl ?_
    refine r_bast rfl k (ti (by omega)) ⟨⟨by decide, by decide⟩, by show k < 2; omega⟩ (Or.inr rfl) (fun _ e => ?_)
    subst e
    refine r_step rfl rfl ?_
    refine r_getr rfl (rv_57_0 ((hL2.row _ _).put _ _ _)) ?_
    refine r_step rfl rfl ?_
    refine r_iald rfl 16 rfl ⟨⟨by decide, by decide⟩, by decide⟩ ?_
    refine r_reti rfl ?_ rfl
    rw [hPut_ne (by decide), hRow_ne _ _ (by decide), hPut_ne (by decide), f1 58 (by omega)]
    exact pr.1.2.1.symm
  · rw [hPut_ne (show 61 ≠ 45 by decide), hPut_ne (show 58 ≠ 45 by decide), f1 58 (by omega), f1 61 (by omega)]
    have hL3 : hLay (hPut (hRow (hPut S1 45 k 1) 61 (cp (S.2.1 61) (S.2.1 58) (59 * k) 0 0 59)) 62 k 1) := (hL2.row _ _).put _ _ _
    have g : ∀ q, q ≠ 45 → q ≠ 61 → q ≠ 62 → (hPut (hRow (hPut S1 45 k 1) 61 (cp (S.2.1 61) (S.2.1 58) (59 * k) 0 0 59)) 62 k 1).2.1 q = S1.2.1 q := fun q n1 n2 n3 => by rw [hPut_ne n3, hRow_ne _ _ n2, hPut_ne n1]
    have g45 : (hPut (hRow (hPut S1 45 k 1) 61 (cp (S.2.1 61) (S.2.1 58) (59 * k) 0 0 59)) 62 k 1).2.1 45 = upd (S.2.1 45) k 1 := by rw [hPut_ne (by decide), hRow_ne _ _ (by decide), hPut_at, f1 45 (by omega)]
    have g61 : (hPut (hRow (hPut S1 45 k 1) 61 (cp (S.2.1 61) (S.2.1 58) (59 * k) 0 0 59)) 62 k 1).2.1 61 = cp (S.2.1 61) (S.2.1 58) (59 * k) 0 0 59 := by rw [hPut_ne (by decide), hRow_at]
    have g62 : (hPut (hRow (hPut S1 45 k 1) 61 (cp (S.2.1 61) (S.2.1 58) (59 * k) 0 0 59)) 62 k 1).2.1 62 = upd (S.2.1 62) k 1 := by rw [hPut_at, hRow_ne _ _ (by decide), hPut_ne (by decide), f1 62 (by omega)]
    generalize hPut (hRow (hPut S1 45 k 1) 61 (cp (S.2.1 61) (S.2.1 58) (59 * k) 0 0 59)) 62 k 1 = S2 at *
    have e : ∀ q, q ≠ 45 → q ≠ 61 → q ≠ 62 → (q < 37 + 4 * k ∨ 41 + 4 * k ≤ q) → S2.2.1 q = S.2.1 q := fun q n1 n2 n3 n4 => (g q n1 n2 n3).trans (f1 q n4)
    refine ⟨hL3, ?_, ?_, ?_, ?_, ?_, ?_⟩
    · rw [e 1 (by omega) (by omega) (by omega) (by omega), e 63 (by omega) (by omega) (by omega) (by omega)]; exact h.2.1
    · rw [e 2 (by omega) (by omega) (by omega) (by omega), e 3 (by omega) (by omega) (by omega) (by omega), e 64 (by omega) (by omega) (by omega) (by omega), e 57 (by omega) (by omega) (by omega) (by omega)]; exact h.2.2.1
    · exact pr.congr (e _ (by omega) (by omega) (by omega) (by omega)) (e _ (by omega) (by omega) (by omega) (by omega)) (e _ (by omega) (by omega) (by omega) (by omega)) (e _ (by omega) (by omega) (by omega) (by omega)) (e _ (by omega) (by omega) (by omega) (by omega)) (e _ (by omega) (by omega) (by omega) (by omega))
    · rw [e 57 (by omega) (by omega) (by omega) (by omega)]
      exact h.2.2.2.2.1.congr (fun q n1 n2 => e q (by omega) (by omega) (by omega) (by omega)) (e 60 (by omega) (by omega) (by omega) (by omega)) (e 63 (by omega) (by omega) (by omega) (by omega))
    · intro t ht
      by_cases c : t = k
      · subst c
        rw [g45, g62, pk_us, pk_us]
        refine ⟨Or.inr rfl, rfl, fun _ => ?_⟩
        have c1 := pr.1.copy b2
        have c2 : rMom S2.2.1 (37 + 4 * t) (S.2.1 58) := by
          refine ⟨?_, ?_⟩
          · rw [g (37 + 4 * t) (by omega) (by omega) (by omega), g (37 + 4 * t + 1) (by omega) (by omega) (by omega), g (37 + 4 * t + 2) (by omega) (by omega) (by omega), g (37 + 4 * t + 3) (by omega) (by omega) (by omega)]
            exact c1
          · rw [e 63 (by omega) (by omega) (by omega) (by omega)]; exact pr.2
        refine c2.c59 (fun j hj => ?_)
        show S2.2.1 61 (59 * t + j) = S.2.1 58 j
        rw [g61]
        have := cp_at (f := S.2.1 61) (g := S.2.1 58) (a := 59 * t) (b := 0) hj
        rw [Nat.zero_add] at this
        exact this
      · obtain ⟨o1, o2, o3⟩ := h.2.2.2.2.2.1 t ht
        rw [g45, g62, pk_un c, pk_un c]
        refine ⟨o1, o2, fun w => ?_⟩
        have c2 : rMom S2.2.1 (37 + 4 * t) (fun j => S.2.1 61 (59 * t + j)) := (o3 w).congr (e _ (by omega) (by omega) (by omega) (by omega)) (e _ (by omega) (by omega) (by omega) (by omega)) (e _ (by omega) (by omega) (by omega) (by omega)) (e _ (by omega) (by omega) (by omega) (by omega)) (e _ (by omega) (by omega) (by omega) (by omega)) rfl
        refine c2.c59 (fun j hj => ?_)
        show S2.2.1 61 (59 * t + j) = S.2.1 61 (59 * t + j)
        rw [g61, cp_out (by omega)]
    · rw [e 46 (by omega) (by omega) (by omega) (by omega), e 47 (by omega) (by omega) (by omega) (by omega), e 48 (by omega) (by omega) (by omega) (by omega), e 49 (by omega) (by omega) (by omega) (by omega), e 70 (by omega) (by omega) (by omega) (by omega), e 57 (by omega) (by omega) (by omega) (by omega)]; exact h.2.2.2.2.2.2
end
section
/-! back. -/
theorem a_back {S : hS} (h : Rel S) (x : Int32) : Alk 125 55 [.inl x] S := by
  have hL := h.1
  rcases mIn_iff (v := x) (lo := 0) (hi := 1) with ⟨kx, -⟩ | ⟨kx, x1, x2⟩
  · refine ⟨-1, S, S, ?_, ?_, h⟩
    · show Rn hc_X9_back 0 [some (.inr (some (9, 0))), some (.inl x)] [] S _
      iterate 3 refine r_step rfl rfl ?_
      refine r_call rfl rfl (e_within _ _ _ _) ?_
      rw [kx]
      iterate 2 refine r_step rfl rfl ?_
      exact r_reti rfl rfl rfl
    · show Rn hc_X10_back 0 [some (.inr (some (10, 57))), some (.inl x), none] [] S _
      iterate 3 refine r_step rfl rfl ?_
      refine r_call rfl rfl (e_in _ _ _ _) ?_
      rw [kx]
      iterate 2 refine r_step rfl rfl ?_
      exact r_reti rfl rfl rfl
  obtain ⟨k, hk, rfl⟩ := bt_nI (hi := 1) (x := x) ⟨x1, x2⟩ (by decide)
  have hk2 : k < 2 := by omega
  obtain ⟨i1, i2⟩ := lay_img hL hk2
  obtain ⟨o1, o2, o3⟩ := h.2.2.2.2.2.1 k hk2
  have startC : ∀ o, Rn hc_X9_back 17 [some (.inr (some (9, 0))), some (.inl (nI k))] [.inl (S.2.1 45 k)] S o → Ev 125 [.inr (some (9, 0)), .inl (nI k)] S o := by
    intro o q
    show Rn hc_X9_back 0 [some (.inr (some (9, 0))), some (.inl (nI k))] [] S _
    iterate 3 refine r_step rfl rfl ?_
    refine r_call rfl rfl (e_within _ _ _ _) ?_
    rw [kx]
    iterate 2 refine r_step rfl rfl ?_
    refine r_getr rfl (rv_0_6 hL) ?_
    refine r_step rfl rfl ?_
    exact r_bald rfl k (ti (by omega)) ⟨⟨by decide, by decide⟩, by show k < 2; omega⟩ q
  have startM : ∀ (T : hS) o, hLay T → T.2.1 62 k = S.2.1 45 k → Rn hc_X10_back 17 [some (.inr (some (10, 57))), some (.inl (nI k)), none] [.inl (S.2.1 45 k)] T o → Ev 55 [.inr (some (10, 57)), .inl (nI k)] T o := by
    intro T o hT e q
    show Rn hc_X10_back 0 [some (.inr (some (10, 57))), some (.inl (nI k)), none] [] T _
    iterate 3 refine r_step rfl rfl ?_
    refine r_call rfl rfl (e_in _ _ _ _) ?_
    rw [kx]
    iterate 2 refine r_step rfl rfl ?_
    refine r_getr rfl (rv_57_5 hT) ?_
    refine r_step rfl rfl ?_
    refine r_bald rfl k (ti (by omega)) ⟨⟨by decide, by decide⟩, by show k < 2; omega⟩ ?_
    rw [e]
    exact q
  rcases o1 with w | w
  · refine ⟨-2, S, S, startC _ ?_, startM S _ hL o2 ?_, h⟩
    · refine r_step rfl rfl ?_
      refine r_i_ne (fun q => absurd w q) (fun _ => ?_)
      refine r_step rfl rfl ?_
      exact r_reti rfl rfl rfl
    · refine r_step rfl rfl ?_
      refine r_i_ne (fun q => absurd w q) (fun _ => ?_)
      refine r_step rfl rfl ?_
      exact r_reti rfl rfl rfl
  have im := o3 w
  have nz : ¬ S.2.1 45 k = 0 := fun q => absurd (w.symm.trans q) (by decide)
  have bb := im.bits
  obtain ⟨S1, b1, b2, b3⟩ := e_mcopy 6 (37 + 4 * k) S (mom_6 hL) i2 (Or.inl (by omega)) bb.1 bb.2.1 bb.2.2
  have hL1 := hL.fr b3
  have hL2 : hLay (hPut S1 10 2 0) := hL1.put _ _ _
  have f1 : ∀ q, (q < 6 ∨ 10 ≤ q) → S1.2.1 q = S.2.1 q := fun q n1 => b3.2.2 q (by omega)
  refine ⟨S1.2.1 6 2, hPut S1 10 2 0, hPut (hRow (hPut S1 10 2 0) 58 (cp ((hPut S1 10 2 0).2.1 58) ((hPut S1 10 2 0).2.1 61) 0 (59 * k) 0 59)) 57 3 0, startC _ ?_, startM _ _ hL2 ?_ ?_, ?_⟩
  · refine r_step rfl rfl ?_
    refine r_i_ne (fun _ => ?_) (fun q => absurd q nz)
    refine r_step rfl rfl ?_
    refine r_getr rfl (rv_0_3 hL) ?_
    refine r_step rfl rfl ?_
    refine r_getr rfl (rv_0_5 hL) ?_
    refine r_step rfl rfl ?_
    refine r_aald rfl k (ti (by omega)) ⟨⟨by decide, by decide⟩, by show k < 2; omega⟩ i1 ?_
    refine r_callv rfl rfl b1 ?_
    refine r_step rfl rfl ?_
    refine r_getr rfl (rv_0_4 hL1) ?_
    refine r_callv rfl rfl (e_plose S1) ?_
    refine r_step rfl rfl ?_
    refine r_getr rfl (rv_0_3 hL2) ?_
    refine r_step rfl rfl ?_
    refine r_reti rfl ?_ rfl
    rw [hPut_ne (by decide)]
  · rw [hPut_ne (by decide), f1 62 (by omega)]
    exact o2
  · refine r_step rfl rfl ?_
    refine r_i_ne (fun _ => ?_) (fun q => absurd q nz)
    iterate 2 refine r_step rfl rfl ?_
    refine back_l k hk2 59 0 (hPut S1 10 2 0) _ (by omega) hL2 ?_
    iterate 4 refine r_step rfl rfl ?_
    refine r_getr rfl (rv_57_0 ((hL2.row _ _).put _ _ _)) ?_
    refine r_step rfl rfl ?_
    refine r_iald rfl 16 rfl ⟨⟨by decide, by decide⟩, by decide⟩ ?_
    refine r_reti rfl ?_ rfl
    rw [hPut_ne (by decide), hRow_at, hPut_ne (show 61 ≠ 10 by decide), f1 61 (by omega)]
    have := cp_at (f := (hPut S1 10 2 0).2.1 58) (g := S.2.1 61) (a := 0) (b := 59 * k) (N := 59) (i := 16) (by omega)
    rw [Nat.zero_add] at this
    rw [this]
    exact ((b2.2.2.2.2.1).trans im.1.2.1).symm
  · rw [hPut_ne (show 61 ≠ 10 by decide), hPut_ne (show 58 ≠ 10 by decide), f1 58 (by omega), f1 61 (by omega)]
    have hL3 : hLay (hPut (hRow (hPut S1 10 2 0) 58 (cp (S.2.1 58) (S.2.1 61) 0 (59 * k) 0 59)) 57 3 0) := (hL2.row _ _).put _ _ _
    have g : ∀ q, q ≠ 10 → q ≠ 57 → q ≠ 58 → (hPut (hRow (hPut S1 10 2 0) 58 (cp (S.2.1 58) (S.2.1 61) 0 (59 * k) 0 59)) 57 3 0).2.1 q = S1.2.1 q := fun q n1 n2 n3 => by rw [hPut_ne n2, hRow_ne _ _ n3, hPut_ne n1]
    have g10 : (hPut (hRow (hPut S1 10 2 0) 58 (cp (S.2.1 58) (S.2.1 61) 0 (59 * k) 0 59)) 57 3 0).2.1 10 = upd (S.2.1 10) 2 0 := by rw [hPut_ne (by decide), hRow_ne _ _ (by decide), hPut_at, f1 10 (by omega)]
    have g57 : (hPut (hRow (hPut S1 10 2 0) 58 (cp (S.2.1 58) (S.2.1 61) 0 (59 * k) 0 59)) 57 3 0).2.1 57 = upd (S.2.1 57) 3 0 := by rw [hPut_at, hRow_ne _ _ (by decide), hPut_ne (by decide), f1 57 (by omega)]
    have g58 : (hPut (hRow (hPut S1 10 2 0) 58 (cp (S.2.1 58) (S.2.1 61) 0 (59 * k) 0 59)) 57 3 0).2.1 58 = cp (S.2.1 58) (S.2.1 61) 0 (59 * k) 0 59 := by rw [hPut_ne (by decide), hRow_at]
    generalize hPut (hRow (hPut S1 10 2 0) 58 (cp (S.2.1 58) (S.2.1 61) 0 (59 * k) 0 59)) 57 3 0 = S2 at *
    have e : ∀ q, q ≠ 10 → q ≠ 57 → q ≠ 58 → (q < 6 ∨ 10 ≤ q) → S2.2.1 q = S.2.1 q := fun q n1 n2 n3 n4 => (g q n1 n2 n3).trans (f1 q n4)
    refine ⟨hL3, ?_, ?_, ?_, ?_, ?_, ?_⟩
    · rw [e 1 (by omega) (by omega) (by omega) (by omega), e 63 (by omega) (by omega) (by omega) (by omega)]; exact h.2.1
    · rw [e 2 (by omega) (by omega) (by omega) (by omega), e 3 (by omega) (by omega) (by omega) (by omega), e 64 (by omega) (by omega) (by omega) (by omega), g57, pk_un (by decide)]; exact h.2.2.1
    · have c1 := im.1.copy b2
      have c2 : rMom S2.2.1 6 (fun j => S.2.1 61 (59 * k + j)) := by
        refine ⟨?_, ?_⟩
        · show mRel (S2.2.1 6) (S2.2.1 7) (S2.2.1 8) (S2.2.1 9) _
          rw [g 6 (by omega) (by omega) (by omega), g 7 (by omega) (by omega) (by omega), g 8 (by omega) (by omega) (by omega), g 9 (by omega) (by omega) (by omega)]
          exact c1
        · rw [e 63 (by omega) (by omega) (by omega) (by omega)]; exact im.2
      refine c2.c59 (fun j hj => ?_)
      rw [g58]
      have := cp_at (f := S.2.1 58) (g := S.2.1 61) (a := 0) (b := 59 * k) hj
      rw [Nat.zero_add] at this
      exact this
    · obtain ⟨p, z, a1, a2, a3, a4, a5, a6⟩ := h.2.2.2.2.1
      exact ⟨p, 0, a1, by omega, by rw [g10, pk_un (by decide)]; exact a3, by rw [g10, pk_us]; rfl, by rw [g57, pk_us]; rfl, fun i hi => absurd hi (by omega)⟩
    · exact h.2.2.2.2.2.1.congr (fun q n1 n2 => e q (by omega) (by omega) (by omega) (by omega)) (e 61 (by omega) (by omega) (by omega) (by omega)) (e 62 (by omega) (by omega) (by omega) (by omega)) (e 63 (by omega) (by omega) (by omega) (by omega))
    · rw [e 46 (by omega) (by omega) (by omega) (by omega), e 47 (by omega) (by omega) (by omega) (by omega), e 48 (by omega) (by omega) (by omega) (by omega), e 49 (by omega) (by omega) (by omega) (by omega), e 70 (by omega) (by omega) (by omega) (by omega), g57, pk_un (by decide)]; exact h.2.2.2.2.2.2
end
section
/-! The model notes a speed. -/
def nsh (f : Nat → Int32) (k : Nat) : Nat → Int32 := fun j => if 20 ≤ j ∧ j ≤ 19 + k then f (j - 1) else f j
theorem nsh_end (f : Nat → Int32) : nsh f 0 = f := by
  funext j
  unfold nsh
  rw [if_neg (by omega)]
theorem nsh_step (f : Nat → Int32) (k : Nat) : nsh (upd f (19 + (k + 1)) (f (19 + k))) k = nsh f (k + 1) := by
  funext j
  unfold nsh
  by_cases h1 : 20 ≤ j ∧ j ≤ 19 + k
  · rw [if_pos h1, if_pos (by omega), pk_un (by omega)]
  · rw [if_neg h1]
    by_cases h2 : j = 19 + (k + 1)
    · subst h2
      rw [pk_us, if_pos (by omega)]
      exact congrArg f (by omega)
    · rw [pk_un h2, if_neg (by omega)]
theorem nI_m1 (k : Nat) : nI (k + 1) + -1 = nI k := by
  rw [← nI_s1, Int32.add_assoc, show (1 : Int32) + -1 = 0 by decide, Int32.add_zero]
set_option maxHeartbeats 4000000 in
set_option maxRecDepth 100000 in
theorem ns_l : ∀ (k : Nat) (T : hS) (o : Option Int32 × hS), k ≤ 39 → hLay T → Rn hc_X10_notesSpeed 33 [some (.inr (some (10, 57))), some (.inl (nI 0))] [] (hRow T 58 (nsh (T.2.1 58) k)) o → Rn hc_X10_notesSpeed 3 [some (.inr (some (10, 57))), some (.inl (nI k))] [] T o := by
  intro k
  induction k with
  | zero =>
    intro T o hk hL kk
    rw [nsh_end, hRow_self] at kk
    iterate 2 refine r_step rfl rfl ?_
    refine r_i_le (fun _ => kk) (fun q => absurd (show nI 0 ≤ 0 by decide) q)
  | succ k ih =>
    intro T o hk hL kk
    iterate 2 refine r_step rfl rfl ?_
    refine r_i_le (fun q => absurd q (nI_nle (by omega) (by omega))) (fun _ => ?_)
    refine r_step rfl rfl ?_
    refine r_getr rfl (rv_57_0 hL) ?_
    iterate 4 refine r_step rfl rfl ?_
    refine r_getr rfl (rv_57_0 hL) ?_
    iterate 5 refine r_step rfl rfl ?_
    rw [show (19 : Int32) + nI (k + 1) = nI (19 + (k + 1)) from nI_add 19 (k + 1), show nI (19 + (k + 1)) - 1 = nI (19 + k) from nI_pred (19 + k)]
    refine r_iald rfl (19 + k) (ti (by omega)) ⟨⟨by decide, by decide⟩, by show 19 + k < 59; omega⟩ ?_
    refine r_iast0 rfl (19 + (k + 1)) (ti (by omega)) ⟨⟨by decide, by decide⟩, by show 19 + (k + 1) < 59; omega⟩ ?_
    iterate 2 refine r_step rfl rfl ?_
    show Rn hc_X10_notesSpeed 3 [some (.inr (some (10, 57))), some (.inl (nI (k + 1) + -1))] [] _ _
    rw [nI_m1]
    refine ih _ o (by omega) (hL.put _ _ _) ?_
    rw [hPut_at, hPut_eq, hRow_row, nsh_step]
    exact kk
/-- what notesSpeed makes of the row -/
def mSpd (u : Nat → Int32) : Nat → Int32 := upd (upd (upd (nsh u 39) 19 (u 1)) 18 (u 18 + (if (40 : Int32) ≤ u 18 then 0 else 1))) 16 (u 16 + 1)
set_option maxHeartbeats 4000000 in
set_option maxRecDepth 100000 in
theorem e_notesSpeed (S : hS) (hL : hLay S) : Ev 15 [.inr (some (10, 57))] S (none, hRow S 58 (mSpd (S.2.1 58))) := by
  show Rn hc_X10_notesSpeed 0 [some (.inr (some (10, 57))), none] [] S _
  iterate 2 refine r_step rfl rfl ?_
  refine ns_l 39 S _ (by omega) hL ?_
  have t1 : nsh (S.2.1 58) 39 1 = S.2.1 58 1 := if_neg (by omega)
  have t18 : nsh (S.2.1 58) 39 18 = S.2.1 58 18 := if_neg (by omega)
  have t16 : nsh (S.2.1 58) 39 16 = S.2.1 58 16 := if_neg (by omega)
  refine r_step rfl rfl ?_
  refine r_getr rfl (rv_57_0 (hL.row _ _)) ?_
  iterate 2 refine r_step rfl rfl ?_
  refine r_getr rfl (rv_57_0 (hL.row _ _)) ?_
  refine r_step rfl rfl ?_
  refine r_iald rfl 1 rfl ⟨⟨by decide, by decide⟩, by decide⟩ ?_
  refine r_iast0 rfl 19 rfl ⟨⟨by decide, by decide⟩, by decide⟩ ?_
  rw [hRow_at, hPut_row, t1]
  have hL2 : hLay (hRow S 58 (upd (nsh (S.2.1 58) 39) 19 (S.2.1 58 1))) := hL.row _ _
  refine r_step rfl rfl ?_
  refine r_getr rfl (rv_57_0 hL2) ?_
  iterate 2 refine r_step rfl rfl ?_
  refine r_iald rfl 18 rfl ⟨⟨by decide, by decide⟩, by decide⟩ ?_
  refine r_step rfl rfl ?_
  refine r_getr rfl (rv_57_0 hL2) ?_
  refine r_step rfl rfl ?_
  refine r_iald rfl 18 rfl ⟨⟨by decide, by decide⟩, by decide⟩ ?_
  rw [hRow_at, pk_un (show 18 ≠ 19 by decide), t18]
  have rest : ∀ x : Int32, Rn hc_X10_notesSpeed 72 [some (.inr (some (10, 57))), some (.inl (nI 0))] [.inl (S.2.1 58 18 + x), .inl 18, .inr (some (10059, 58))] (hRow S 58 (upd (nsh (S.2.1 58) 39) 19 (S.2.1 58 1))) (none, hRow S 58 (upd (upd (upd (nsh (S.2.1 58) 39) 19 (S.2.1 58 1)) 18 (S.2.1 58 18 + x)) 16 (S.2.1 58 16 + 1))) := by
    intro x
    refine r_iast0 rfl 18 rfl ⟨⟨by decide, by decide⟩, by decide⟩ ?_
    rw [hPut_row]
    have hL3 : hLay (hRow S 58 (upd (upd (nsh (S.2.1 58) 39) 19 (S.2.1 58 1)) 18 (S.2.1 58 18 + x))) := hL.row _ _
    refine r_step rfl rfl ?_
    refine r_getr rfl (rv_57_0 hL3) ?_
    iterate 2 refine r_step rfl rfl ?_
    refine r_iald rfl 16 rfl ⟨⟨by decide, by decide⟩, by decide⟩ ?_
    iterate 2 refine r_step rfl rfl ?_
    rw [hRow_at, pk_un (show 16 ≠ 18 by decide), pk_un (show 16 ≠ 19 by decide), t16]
    refine r_iast0 rfl 16 rfl ⟨⟨by decide, by decide⟩, by decide⟩ ?_
    rw [hPut_row]
    exact r_retn rfl rfl
  unfold mSpd
  by_cases c : (40 : Int32) ≤ S.2.1 58 18
  · rw [if_pos c]
    iterate 2 refine r_step rfl rfl ?_
    refine r_i_ge (fun _ => ?_) (fun q => absurd c q)
    iterate 2 refine r_step rfl rfl ?_
    exact rest 0
  · rw [if_neg c]
    iterate 2 refine r_step rfl rfl ?_
    refine r_i_ge (fun q => absurd q c) (fun _ => ?_)
    iterate 3 refine r_step rfl rfl ?_
    exact rest 1
end
section
/-! A step of the wheel reads no more than 16 slots and 6 settings. -/
def eq16 (w u : Nat → Int32) : Prop := ∀ j, j < 16 → w j = u j
theorem eq16.up {w u : Nat → Int32} (h : eq16 w u) (k : Nat) {x y : Int32} (e : x = y) : eq16 (upd w k x) (upd u k y) := by
  intro j hj
  by_cases c : j = k
  · subst c
    rw [pk_us, pk_us]
    exact e
  · rw [pk_un c, pk_un c]
    exact h j hj
theorem wWd_c {w u : Nat → Int32} (h : eq16 w u) (l : Int32) : wWd w l = wWd u l := by
  unfold wWd
  rw [h 7 (by decide)]
theorem wErr_c {w u : Nat → Int32} (h : eq16 w u) : wError w = wError u := wError_congr (h 5 (by decide)) (h 6 (by decide))
theorem wPA_c {a b w u : Nat → Int32} (h : eq16 w u) (s : ∀ j, j < 6 → a j = b j) : wPitchAim a w = wPitchAim b u := by
  unfold wPitchAim
  rw [h 0 (by decide), h 1 (by decide), h 2 (by decide), s 0 (by decide)]
theorem wTA_c {a b w u : Nat → Int32} (h : eq16 w u) (s : ∀ j, j < 6 → a j = b j) : wTorqueAim a w = wTorqueAim b u := by
  unfold wTorqueAim
  rw [h 0 (by decide), h 1 (by decide), s 0 (by decide)]
theorem wDrag_c {w u : Nat → Int32} (h : eq16 w u) : wDrag w = wDrag u := by
  unfold wDrag
  rw [h 1 (by decide)]
theorem wDr_c {w u : Nat → Int32} (h : eq16 w u) (e : Int32) : wDrive w e = wDrive u e := wDrive_congr (h 2 (by decide)) (h 4 (by decide)) (h 8 (by decide)) e
theorem wMode_c {a b w u : Nat → Int32} (h : eq16 w u) (s : ∀ j, j < 6 → a j = b j) : wMode a w = wMode b u := by
  unfold wMode
  simp only [wErr_c h, wWd_c h, h 0 (by decide), h 1 (by decide), h 2 (by decide), h 3 (by decide), h 4 (by decide), h 5 (by decide), h 6 (by decide), h 7 (by decide), h 8 (by decide), h 9 (by decide), h 10 (by decide), h 11 (by decide), h 12 (by decide), h 13 (by decide), h 14 (by decide), h 15 (by decide), s 0 (by decide), s 1 (by decide), s 2 (by decide), s 3 (by decide), s 4 (by decide), s 5 (by decide)]
theorem wS1_c {a b w u : Nat → Int32} (h : eq16 w u) (s : ∀ j, j < 6 → a j = b j) : eq16 (wS1 a w) (wS1 b u) := h.up 11 (by rw [h 4 (by decide), h 11 (by decide), s 2 (by decide), s 3 (by decide)])
theorem wS2_c {a b w u : Nat → Int32} (h : eq16 w u) (s : ∀ j, j < 6 → a j = b j) : eq16 (wS2 a w) (wS2 b u) := h.up 12 (by rw [h 4 (by decide), h 12 (by decide), s 3 (by decide)])
theorem wS3_c {w u : Nat → Int32} (h : eq16 w u) : eq16 (wS3 w) (wS3 u) := h.up 13 (by rw [h 9 (by decide), h 13 (by decide)])
theorem wS4_c {a b w u : Nat → Int32} (h : eq16 w u) (s : ∀ j, j < 6 → a j = b j) : eq16 (wS4 a w) (wS4 b u) := h.up 0 (wMode_c h s)
theorem wS5_c {a b w u : Nat → Int32} (h : eq16 w u) (s : ∀ j, j < 6 → a j = b j) : eq16 (wS5 a w) (wS5 b u) := h.up 2 (by rw [wPA_c h s, h 0 (by decide), h 2 (by decide), s 5 (by decide)])
theorem wS6_c {a b w u : Nat → Int32} (h : eq16 w u) (s : ∀ j, j < 6 → a j = b j) : eq16 (wS6 a w) (wS6 b u) := h.up 3 (by rw [wTA_c h s, h 9 (by decide), h 3 (by decide)])
theorem wS7_c {w u : Nat → Int32} (h : eq16 w u) (e : Int32) : eq16 (wS7 e w) (wS7 e u) := h.up 1 (by rw [wDr_c h, wDrag_c h, h 1 (by decide), h 3 (by decide)])
theorem wS8_c {w u : Nat → Int32} (h : eq16 w u) (e : Int32) : eq16 (wS8 e w) (wS8 e u) := h.up 14 (by rw [h 14 (by decide)])
end
section
/-! A step of the wheel, all of it. -/
theorem wT1_c {w u : Nat → Int32} (h : eq16 w u) (l : Int32) : eq16 (wT1 l w) (wT1 l u) := by
  unfold wT1
  rw [wWd_c h, h 0 (by decide)]
  by_cases c : u 0 = 0 ∧ ¬ wWd u l = 0
  · rw [if_pos c, if_pos c]; exact h.up 15 rfl
  · rw [if_neg c, if_neg c]; exact h
theorem wT2_c {w u : Nat → Int32} (h : eq16 w u) : eq16 (wT2 w) (wT2 u) := by
  unfold wT2
  rw [h 7 (by decide), h 0 (by decide)]
  by_cases c : u 7 = 0 ∨ ¬ u 0 = 0
  · rw [if_pos c, if_pos c]; exact h.up 15 rfl
  · rw [if_neg c, if_neg c]; exact h
theorem wTurnBy_c {w u : Nat → Int32} (h : eq16 w u) (d : Int32) : eq16 (wTurnBy w d) (wTurnBy u d) := by
  unfold wTurnBy
  exact (h.up 6 (by rw [h 6 (by decide)])).up 7 (by rw [h 7 (by decide)])
theorem eq16_if {w u w' u' : Nat → Int32} {p : Prop} [Decidable p] (h : eq16 w u) (k : eq16 w' u') : eq16 (if p then w else w') (if p then u else u') := by
  by_cases c : p
  · rw [if_pos c, if_pos c]; exact h
  · rw [if_neg c, if_neg c]; exact k
theorem wT3_c {w u : Nat → Int32} (h : eq16 w u) (l : Int32) : eq16 (wT3 l w) (wT3 l u) := by
  have ea : wAhead w = wAhead u := by unfold wAhead; rw [h 5 (by decide), h 6 (by decide)]
  unfold wT3
  rw [ea, h 15 (by decide), h 0 (by decide), h 14 (by decide), h 7 (by decide)]
  exact eq16_if (eq16_if h (eq16_if h (eq16_if h (eq16_if h (wTurnBy_c h _))))) (wTurnBy_c h _)
theorem wStep_c {a b w u : Nat → Int32} (h : eq16 w u) (s : ∀ j, j < 6 → a j = b j) : eq16 (wStep a w) (wStep b u) := by
  have k := wS6_c (wS5_c (wS4_c (wS3_c (wS2_c (wS1_c h s) s)) s) s) s
  unfold wStep wEnd wTurn
  rw [wErr_c k, s 4 (by decide)]
  exact wT3_c (wT2_c (wT1_c (wS8_c (wS7_c k _) _) _)) _
end
section
/-! One tick, on both sides. -/
theorem r40 : ∀ n, n < 40 → (if nI n + 1 = 40 then (0 : Int32) else nI n + 1) = nI ((n + 1) % 40) := by decide +kernel
theorem j40 : ∀ z, z < 41 → jmin 40 (nI z + 1) = nI (min 40 (z + 1)) ∧ nI z + (if (40 : Int32) ≤ nI z then 0 else 1) = nI (min 40 (z + 1)) := by decide +kernel
theorem b40 : ∀ z, z < 41 → (0 ≤ (nI z).toInt ∧ (nI z).toInt ≤ 40) := by decide +kernel
theorem mSpd_lo (v : Nat → Int32) {j : Nat} (h : j < 18) (h16 : j ≠ 16) : mSpd v j = v j := by
  unfold mSpd
  rw [pk_un h16, pk_un (by omega), pk_un (by omega)]
  exact if_neg (by omega)
theorem mSpd_16 (v : Nat → Int32) : mSpd v 16 = v 16 + 1 := pk_us
theorem mSpd_18 (v : Nat → Int32) : mSpd v 18 = v 18 + (if (40 : Int32) ≤ v 18 then 0 else 1) := by
  unfold mSpd
  rw [pk_un (by decide), pk_us]
theorem mSpd_19 (v : Nat → Int32) : mSpd v 19 = v 1 := by
  unfold mSpd
  rw [pk_un (by decide), pk_un (by decide), pk_us]
theorem mSpd_hi (v : Nat → Int32) {k : Nat} (h : k < 39) : mSpd v (19 + (k + 1)) = v (19 + k) := by
  unfold mSpd
  rw [pk_un (by omega), pk_un (by omega), pk_un (by omega)]
  unfold nsh
  rw [if_pos (by omega)]
  exact congrArg v (by omega)
theorem mom_tick {sc st m w t a u m' : Nat → Int32} {n z : Nat} (hs : okSet st) (s : ∀ j, j < 6 → sc j = st j) (q1 : ∀ j, j < 16 → w j = u j) (q2 : m 2 = u 16) (q3 : m 3 = u 17) (q4 : t 2 = u 18) (g1 : n < 40) (g2 : z ≤ 40) (g3 : t 1 = nI n) (g4 : u 18 = nI z) (g5 : ∀ k, k < z → a ((n + 39 - k) % 40) = u (19 + k)) (hi : mInv st u) (hu : (u 16).toInt < 9999)
    (e2 : m' 2 = m 2 + 1) (e3 : m' 3 = m 3 + (if ¬ w 0 = 5 ∧ wStep sc w 0 = 5 then 1 else 0)) : mRel m' (wStep sc w) (tAdd t) (upd a n (wStep sc w 1)) (mSpd (mGoes st u)) ∧ mInv st (mSpd (mGoes st u)) := by
  obtain ⟨i1, i2, i3, i4, i5⟩ := hi
  obtain ⟨k1, k2, k3, k4, -⟩ := step_inv hs i1 i2
  have ge := (goes_eq hs i1).1
  have c := wStep_c (a := sc) (b := st) q1 s
  have lo : ∀ j, j < 16 → mSpd (mGoes st u) j = wStep st u j := fun j hj => by rw [mSpd_lo _ (by omega) (by omega), ge, pk_un (by omega)]
  have v16 : mGoes st u 16 = u 16 := by rw [ge, pk_un (by decide), k3 16 (by decide)]
  have v17 : mGoes st u 17 = u 17 + (if wStep st u 0 = 5 then (if u 0 = 5 then 0 else 1) else 0) := by rw [ge, pk_us, k4]
  have vh : ∀ j, 18 ≤ j → mGoes st u j = u j := fun j hj => by rw [ge, pk_un (by omega), k3 j (by omega)]
  have w16 : mSpd (mGoes st u) 16 = u 16 + 1 := by rw [mSpd_16, v16]
  have w18 : mSpd (mGoes st u) 18 = nI (min 40 (z + 1)) := by rw [mSpd_18, vh 18 (by decide), g4, (j40 z (by omega)).2]
  have w19 : mSpd (mGoes st u) 19 = wStep st u 1 := by rw [mSpd_19, ge, pk_un (by decide)]
  refine ⟨⟨fun j hj => by rw [lo j hj]; exact c j hj, by rw [e2, q2, w16], ?_, ?_, (n + 1) % 40, min 40 (z + 1), Nat.mod_lt _ (by decide), by omega, ?_, w18, fun k hk => ?_⟩, ⟨k1.congr rfl lo, k2.congr (lo 0 (by decide)) (lo 1 (by decide)) (lo 2 (by decide)), ?_, ?_, fun k hk => ?_⟩⟩
  · rw [e3, q3, mSpd_lo _ (by decide) (by decide), v17, c 0 (by decide), q1 0 (by decide)]
    by_cases d1 : wStep st u 0 = 5
    · by_cases d2 : u 0 = 5
      · rw [if_neg (fun q => q.1 d2), if_pos d1, if_pos d2]
      · rw [if_pos ⟨d2, d1⟩, if_pos d1, if_neg d2]
    · rw [if_neg (fun q => d1 q.2), if_neg d1]
  · show tAdd t 2 = _
    unfold tAdd
    rw [pk_us, q4, g4, (j40 z (by omega)).1, w18]
  · show tAdd t 1 = _
    unfold tAdd
    rw [pk_un (by decide), pk_us, g3, r40 n g1]
  · by_cases k0 : k = 0
    · subst k0
      rw [show ((n + 1) % 40 + 39 - 0) % 40 = n by omega, pk_us]
      exact (c 1 (by decide)).trans w19.symm
    · obtain ⟨y, rfl⟩ : ∃ y, k = y + 1 := ⟨k - 1, by omega⟩
      rw [show ((n + 1) % 40 + 39 - (y + 1)) % 40 = (n + 39 - y) % 40 by omega, pk_un (by omega), mSpd_hi _ (by omega), vh _ (by omega)]
      exact g5 y (by omega)
  · rw [w16]
    obtain ⟨b1, b2⟩ := i3
    have e : (u 16 + 1).toInt = (u 16).toInt + (1 : Int32).toInt := i_add (by have : (1 : Int32).toInt = 1 := rfl; omega) (by have : (1 : Int32).toInt = 1 := rfl; omega)
    have f : (1 : Int32).toInt = 1 := rfl
    exact ⟨by omega, by omega⟩
  · rw [w18]
    exact b40 _ (by omega)
  · by_cases k0 : k = 0
    · subst k0
      rw [w19]
      exact k1.2.1
    · obtain ⟨y, rfl⟩ : ∃ y, k = y + 1 := ⟨k - 1, by omega⟩
      rw [mSpd_hi _ (by omega), vh _ (by omega)]
      exact i5 y (by omega)
end
section
/-! Many ticks. -/
def tRow (st : Nat → Int32) : Nat → (Nat → Int32) → Nat → Int32
  | 0, u => u
  | d + 1, u => tRow st d (mSpd (mGoes st u))
theorem spd16 {st u : Nat → Int32} (hs : okSet st) (hi : mInv st u) (hu : (u 16).toInt < 9999) : (mSpd (mGoes st u) 16).toInt = (u 16).toInt + 1 := by
  obtain ⟨k1, k2, k3, -⟩ := step_inv hs hi.1 hi.2.1
  have b := hi.2.2.1
  rw [mSpd_16, (goes_eq hs hi.1).1, pk_un (by decide), k3 16 (by decide)]
  exact i_add (by have : (1 : Int32).toInt = 1 := rfl; have := b.1; omega) (by have : (1 : Int32).toInt = 1 := rfl; omega)
theorem mInv_tick {st u : Nat → Int32} (hs : okSet st) (hi : mInv st u) (hu : (u 16).toInt < 9999) {z : Nat} (hz : z ≤ 40) (e : u 18 = nI z) : mInv st (mSpd (mGoes st u)) :=
  (mom_tick (sc := st) (st := st) (m := fun j => if j = 2 then u 16 else u 17) (w := u) (t := fun j => if j = 1 then nI 0 else u 18) (a := fun j => u (19 + (39 - j))) (u := u) (m' := fun j => if j = 2 then u 16 + 1 else u 17 + (if ¬ u 0 = 5 ∧ wStep st u 0 = 5 then 1 else 0)) (n := 0) (z := z) hs (fun _ _ => rfl) (fun _ _ => rfl) rfl rfl rfl (by decide) hz rfl e (fun k hk => congrArg u (by omega)) hi hu rfl rfl).2
end
section
/-! The loops of ticks. -/
set_option maxHeartbeats 4000000 in
set_option maxRecDepth 100000 in
theorem ticks_m (x : Nat) (hx : x ≤ 60) : ∀ (d k : Nat) (T : hS) (o : Option Int32 × hS), k + d = x → hLay T → okSet (T.2.1 63) → mInv (T.2.1 63) (T.2.1 58) → (T.2.1 58 16).toInt + d ≤ 9999 → Rn hc_X10_ticks 59 [some (.inr (some (10, 57))), some (.inl (nI x)), some (.inl (nI x))] [] (hRow T 58 (tRow (T.2.1 63) d (T.2.1 58))) o → Rn hc_X10_ticks 36 [some (.inr (some (10, 57))), some (.inl (nI x)), some (.inl (nI k))] [] T o := by
  intro d
  induction d with
  | zero =>
    intro k T o hk hL hs hi hu kk
    have : k = x := by omega
    subst this
    rw [tRow, hRow_self] at kk
    iterate 3 refine r_step rfl rfl ?_
    refine r_i_ge (fun _ => kk) (fun q => absurd (nI_le (Nat.le_refl k) (by omega)) q)
  | succ d ih =>
    intro k T o hk hL hs hi hu kk
    obtain ⟨z, hz, ez⟩ := bt_nI (hi := 40) (x := T.2.1 58 18) hi.2.2.2.1 (by decide)
    have hlt : (T.2.1 58 16).toInt < 9999 := by omega
    iterate 3 refine r_step rfl rfl ?_
    refine r_i_ge (fun q => absurd q (nI_ge (by omega) (by omega))) (fun _ => ?_)
    iterate 2 refine r_step rfl rfl ?_
    refine r_getr rfl (rv_57_0 hL) ?_
    refine r_callv rfl rfl (e_goesOn 58 T (rv_57_6 hL) (by decide) hi.1.1) ?_
    refine r_step rfl rfl ?_
    refine r_callv rfl rfl (e_notesSpeed _ (hL.row _ _)) ?_
    rw [hRow_at, hRow_row]
    iterate 2 refine r_step rfl rfl ?_
    show Rn hc_X10_ticks 36 [some (.inr (some (10, 57))), some (.inl (nI x)), some (.inl (nI k + 1))] [] _ _
    rw [nI_s1]
    have e63 : (hRow T 58 (mSpd (mGoes (T.2.1 63) (T.2.1 58)))).2.1 63 = T.2.1 63 := hRow_ne _ _ (by decide)
    refine ih (k + 1) (hRow T 58 (mSpd (mGoes (T.2.1 63) (T.2.1 58)))) o (by omega) (hL.row _ _) (by rw [e63]; exact hs) (by rw [e63, hRow_at]; exact mInv_tick hs hi hlt (by omega) ez) (by rw [hRow_at, spd16 hs hi hlt]; omega) ?_
    rw [e63, hRow_at, hRow_row]
    exact kk
end
section
/-! The class's loop of ticks. -/
set_option maxHeartbeats 4000000 in
set_option maxRecDepth 100000 in
theorem ticks_c (x : Nat) (hx : x ≤ 60) : ∀ (d k : Nat) (S : hS) (u : Nat → Int32), k + d = x → hLay S → rSet (S.2.1 1) (S.2.1 63) → rMom S.2.1 6 u → (u 16).toInt + d ≤ 9999 → ∃ S1, hFr S S1 (fun p => 6 ≤ p ∧ p < 10) ∧ rMom S1.2.1 6 (tRow (S.2.1 63) d u) ∧ ∀ o, Rn hc_X9_ticks 65 [some (.inr (some (9, 0))), some (.inl (nI x)), some (.inl (nI x))] [] S1 o → Rn hc_X9_ticks 43 [some (.inr (some (9, 0))), some (.inl (nI x)), some (.inl (nI k))] [] S o := by
  intro d
  induction d with
  | zero =>
    intro k S u hk hL hs hm hu
    have : k = x := by omega
    subst this
    refine ⟨S, hFr.rf _ _, hm, fun o kk => ?_⟩
    iterate 3 refine r_step rfl rfl ?_
    refine r_i_ge (fun _ => kk) (fun q => absurd (nI_le (Nat.le_refl k) (by omega)) q)
  | succ d ih =>
    intro k S u hk hL hs hm hu
    have hlt : (u 16).toInt < 9999 := by omega
    obtain ⟨⟨q1, q2, q3, q4, n, z, g1, g2, g3, g4, g5⟩, hi⟩ := hm
    obtain ⟨S1, b1, b2, b3, b4, b5, b6, b7⟩ := e_tick 6 1 n S (mom_6 hL) (by decide) (by rw [q1 0 (by decide)]; exact hi.1.1) g3 g1
    have mt := mom_tick (m' := S1.2.1 6) hs.1 hs.2 q1 q2 q3 q4 g1 g2 g3 g4 g5 hi hlt b6 b7
    have f63 : S1.2.1 63 = S.2.1 63 := b2.2.2 63 (by omega)
    have f1 : S1.2.1 1 = S.2.1 1 := b2.2.2 1 (by omega)
    have m1 : rMom S1.2.1 6 (mSpd (mGoes (S.2.1 63) u)) := by
      refine ⟨?_, by rw [f63]; exact mt.2⟩
      rw [b3, b4, b5]
      exact mt.1
    obtain ⟨S2, c1, c2, c3⟩ := ih (k + 1) S1 (mSpd (mGoes (S.2.1 63) u)) (by omega) (hL.fr b2) (by rw [f1, f63]; exact hs) m1 (by rw [spd16 hs.1 hi hlt]; omega)
    rw [f63] at c2
    refine ⟨S2, b2.trans c1, c2, fun o kk => ?_⟩
    iterate 3 refine r_step rfl rfl ?_
    refine r_i_ge (fun q => absurd q (nI_ge (by omega) (by omega))) (fun _ => ?_)
    refine r_step rfl rfl ?_
    refine r_getr rfl (rv_0_3 hL) ?_
    refine r_step rfl rfl ?_
    refine r_getr rfl (rv_0_0 hL) ?_
    refine r_callv rfl rfl b1 ?_
    iterate 2 refine r_step rfl rfl ?_
    show Rn hc_X9_ticks 43 [some (.inr (some (9, 0))), some (.inl (nI x)), some (.inl (nI k + 1))] [] _ _
    rw [nI_s1]
    exact c3 o kk
end
section
/-! ticks. -/
theorem a_ticks {S : hS} (h : Rel S) (x : Int32) : Alk 146 153 [.inl x] S := by
  have hL := h.1
  have hm := h.2.2.2.1
  rcases mIn_iff (v := x) (lo := 1) (hi := 60) with ⟨kx, -⟩ | ⟨kx, x1, x2⟩
  · refine ⟨-1, S, S, ?_, ?_, h⟩
    · show Rn hc_X9_ticks 0 [some (.inr (some (9, 0))), some (.inl x), none] [] S _
      iterate 3 refine r_step rfl rfl ?_
      refine r_call rfl rfl (e_within _ _ _ _) ?_
      rw [kx]
      iterate 2 refine r_step rfl rfl ?_
      exact r_reti rfl rfl rfl
    · show Rn hc_X10_ticks 0 [some (.inr (some (10, 57))), some (.inl x), none] [] S _
      iterate 3 refine r_step rfl rfl ?_
      refine r_call rfl rfl (e_in _ _ _ _) ?_
      rw [kx]
      iterate 2 refine r_step rfl rfl ?_
      exact r_reti rfl rfl rfl
  have l1 : (1 : Int32).toInt = 1 := rfl
  have l60 : (60 : Int32).toInt = 60 := rfl
  have l9 : (9999 : Int32).toInt = 9999 := rfl
  obtain ⟨k, hk, rfl⟩ := bt_nI (hi := 60) (x := x) ⟨by omega, by omega⟩ (by decide)
  have tk : (nI k).toInt = (k : Int) := ti (by omega)
  have b16 := hm.2.2.2.1
  have m16 : S.2.1 6 2 = S.2.1 58 16 := hm.1.2.1
  have ea : (S.2.1 58 16 + nI k).toInt = (S.2.1 58 16).toInt + (nI k).toInt := i_add (by have := b16.1; omega) (by have := b16.2; omega)
  have startC : ∀ o, Rn hc_X9_ticks 24 [some (.inr (some (9, 0))), some (.inl (nI k)), none] [.inl 9999, .inl (S.2.1 58 16 + nI k)] S o → Ev 146 [.inr (some (9, 0)), .inl (nI k)] S o := by
    intro o q
    show Rn hc_X9_ticks 0 [some (.inr (some (9, 0))), some (.inl (nI k)), none] [] S _
    iterate 3 refine r_step rfl rfl ?_
    refine r_call rfl rfl (e_within _ _ _ _) ?_
    rw [kx]
    iterate 2 refine r_step rfl rfl ?_
    refine r_getr rfl (rv_0_3 hL) ?_
    iterate 4 refine r_step rfl rfl ?_
    rw [m16]
    exact q
  have startM : ∀ (T : hS) o, hLay T → T.2.1 58 = S.2.1 58 → Rn hc_X10_ticks 24 [some (.inr (some (10, 57))), some (.inl (nI k)), none] [.inl 9999, .inl (S.2.1 58 16 + nI k)] T o → Ev 153 [.inr (some (10, 57)), .inl (nI k)] T o := by
    intro T o hT e q
    show Rn hc_X10_ticks 0 [some (.inr (some (10, 57))), some (.inl (nI k)), none] [] T _
    iterate 3 refine r_step rfl rfl ?_
    refine r_call rfl rfl (e_in _ _ _ _) ?_
    rw [kx]
    iterate 2 refine r_step rfl rfl ?_
    refine r_getr rfl (rv_57_0 hT) ?_
    refine r_step rfl rfl ?_
    refine r_iald rfl 16 rfl ⟨⟨by decide, by decide⟩, by decide⟩ ?_
    iterate 3 refine r_step rfl rfl ?_
    rw [e]
    exact q
  by_cases c9 : S.2.1 58 16 + nI k ≤ 9999
  · have cu : (S.2.1 58 16).toInt + k ≤ 9999 := by rw [i_le] at c9; omega
    obtain ⟨S1, b1, b2, b3⟩ := note_both h
    have hL1 := hL.fr b2
    have f1 : ∀ p, (p < 10 ∨ 36 ≤ p) → S1.2.1 p = S.2.1 p := fun p hp => b2.2.2 p (by omega)
    obtain ⟨S2, d1, d2, d3⟩ := ticks_c k (by omega) k 0 S1 (S.2.1 58) (by omega) hL1 (by rw [f1 1 (by omega), f1 63 (by omega)]; exact h.2.1) (hm.congr (f1 _ (by omega)) (f1 _ (by omega)) (f1 _ (by omega)) (f1 _ (by omega)) (f1 _ (by omega)) rfl) cu
    have hL2 := hL1.fr d1
    have f2 : ∀ p, 57 ≤ p → S2.2.1 p = S.2.1 p := fun p hp => (d1.2.2 p (by omega)).trans (f1 p (by omega))
    rw [f1 63 (by omega)] at d2
    obtain ⟨T1, c1, c2, c3, c4⟩ := b3 S2 hL2 f2
    have hT1 := hL2.fr c2
    have t58 : T1.2.1 58 = S.2.1 58 := (c2.2.2 58 (by omega)).trans (f2 58 (by omega))
    have t63 : T1.2.1 63 = S.2.1 63 := (c2.2.2 63 (by omega)).trans (f2 63 (by omega))
    refine ⟨S2.2.1 7 1, S2, hRow T1 58 (tRow (S.2.1 63) k (S.2.1 58)), startC _ ?_, startM _ _ hL2 (f2 58 (by omega)) ?_, ?_⟩
    · refine r_step rfl rfl ?_
      refine r_i_le (fun _ => ?_) (fun q => absurd c9 q)
      refine r_step rfl rfl ?_
      refine r_getr rfl (rv_0_4 hL) ?_
      refine r_step rfl rfl ?_
      refine r_getr rfl (rv_0_3 hL) ?_
      refine r_callv rfl rfl b1 ?_
      iterate 2 refine r_step rfl rfl ?_
      refine d3 _ ?_
      refine r_step rfl rfl ?_
      refine r_getr rfl (rv_0_3 hL2) ?_
      refine r_getr rfl (rv_6_0 hL2) ?_
      refine r_step rfl rfl ?_
      exact r_reti rfl rfl rfl
    · refine r_step rfl rfl ?_
      refine r_i_le (fun _ => ?_) (fun q => absurd c9 q)
      refine r_step rfl rfl ?_
      refine r_callv rfl rfl c1 ?_
      iterate 2 refine r_step rfl rfl ?_
      refine ticks_m k (by omega) k 0 T1 _ (by omega) hT1 (by rw [t63]; exact h.2.1.1) (by rw [t63, t58]; exact hm.2) (by rw [t58]; exact cu) ?_
      rw [t63, t58]
      refine r_step rfl rfl ?_
      refine r_getr rfl (rv_57_0 (hT1.row _ _)) ?_
      refine r_step rfl rfl ?_
      refine r_iald rfl 1 rfl ⟨⟨by decide, by decide⟩, by decide⟩ ?_
      refine r_reti rfl ?_ rfl
      rw [hRow_at]
      exact (d2.1.1 1 (by decide)).symm
    · have g : ∀ p, p ≠ 58 → (hRow T1 58 (tRow (S.2.1 63) k (S.2.1 58))).2.1 p = T1.2.1 p := fun p hp => hRow_ne _ _ hp
      have fS : ∀ p, ¬ (p = 57 ∨ p = 58 ∨ p = 60 ∨ (6 ≤ p ∧ p < 36)) → (hRow T1 58 (tRow (S.2.1 63) k (S.2.1 58))).2.1 p = S.2.1 p := fun p hp => by
        rw [g p (by omega), c2.2.2 p (by omega), d1.2.2 p (by omega)]
        exact f1 p (by omega)
      have lo : ∀ p, p < 57 → (hRow T1 58 (tRow (S.2.1 63) k (S.2.1 58))).2.1 p = S2.2.1 p := fun p hp => by rw [g p (by omega), c2.2.2 p (by omega)]
      refine rel_done h ⟨?_, ?_, fS⟩ ?_ ?_ ?_
      · show T1.1 = S.1
        rw [hT1.1, hL.1]
      · show T1.2.2 = S.2.2
        rw [c2.2.1, d1.2.1]
        exact b2.2.1
      · intro j hj
        rw [g 57 (by decide), c3 j hj, f2 57 (by omega)]
      · rw [hRow_at]
        exact d2.congr (lo _ (by omega)) (lo _ (by omega)) (lo _ (by omega)) (lo _ (by omega)) (by rw [fS 63 (by omega)]; exact (f2 63 (by omega)).symm) rfl
      · rw [g 57 (by decide)]
        refine c4 _ (fun p g1 g2 => ?_) (g 60 (by decide)) (fS 63 (by omega))
        rw [lo p (by omega)]
        exact d1.2.2 p (by omega)
  · refine ⟨-3, S, S, startC _ ?_, startM S _ hL rfl ?_, h⟩
    · refine r_step rfl rfl ?_
      refine r_i_le (fun q => absurd q c9) (fun _ => ?_)
      refine r_step rfl rfl ?_
      exact r_reti rfl rfl rfl
    · refine r_step rfl rfl ?_
      refine r_i_le (fun q => absurd q c9) (fun _ => ?_)
      refine r_step rfl rfl ?_
      exact r_reti rfl rfl rfl
end
section
/-! What is not of the relation may change. -/
def pScr (p : Nat) : Prop := p = 4 ∨ p = 5 ∨ (50 ≤ p ∧ p ≤ 57) ∨ p = 59 ∨ (65 ≤ p ∧ p ≤ 69) ∨ p = 71
theorem rel_scr {S S2 : hS} (h : Rel S) (f : hFr S S2 pScr) (e3 : S2.2.1 57 3 = S.2.1 57 3) (e8 : S2.2.1 57 8 = S.2.1 57 8) (e24 : S2.2.1 57 24 = S.2.1 57 24) : Rel S2 := by
  obtain ⟨a, b, c, d, e, g, i⟩ := h
  have k : ∀ p, ¬ pScr p → S2.2.1 p = S.2.1 p := f.2.2
  unfold pScr at k
  refine ⟨a.fr f, ?_, ?_, ?_, ?_, ?_, ?_⟩
  · rw [k 1 (by omega), k 63 (by omega)]; exact b
  · rw [k 2 (by omega), e8, k 3 (by omega), k 64 (by omega)]; exact c
  · exact d.congr (k _ (by omega)) (k _ (by omega)) (k _ (by omega)) (k _ (by omega)) (k _ (by omega)) (k _ (by omega))
  · rw [e3]; exact e.congr (fun p x y => k p (by omega)) (k _ (by omega)) (k _ (by omega))
  · exact g.congr (fun p x y => k p (by omega)) (k _ (by omega)) (k _ (by omega)) (k _ (by omega))
  · rw [k 46 (by omega), k 47 (by omega), k 48 (by omega), k 49 (by omega), k 70 (by omega), e24]; exact i
set_option maxHeartbeats 4000000 in
set_option maxRecDepth 100000 in
theorem tries_l : ∀ (d k : Nat) (T : hS) (o : Option Int32 × hS), k + d = 59 → hLay T → Rn hc_X10_tries 26 [some (.inr (some (10, 57))), some (.inl (nI 59))] [] (hRow T 59 (cp (T.2.1 59) (T.2.1 58) 0 0 k 59)) o → Rn hc_X10_tries 2 [some (.inr (some (10, 57))), some (.inl (nI k))] [] T o := by
  intro d
  induction d with
  | zero =>
    intro k T o hk hL kk
    have : k = 59 := by omega
    subst this
    rw [cp_end, hRow_self] at kk
    iterate 3 refine r_step rfl rfl ?_
    refine r_i_ge (fun _ => kk) (fun q => absurd (show (59 : Int32) ≤ nI 59 by decide) q)
  | succ d ih =>
    intro k T o hk hL kk
    have hkl : k < 59 := by omega
    iterate 3 refine r_step rfl rfl ?_
    refine r_i_ge (fun q => absurd q (lt_lit (N := 59) rfl (by decide) hkl)) (fun _ => ?_)
    refine r_step rfl rfl ?_
    refine r_getr rfl (rv_57_1 hL) ?_
    iterate 2 refine r_step rfl rfl ?_
    refine r_getr rfl (rv_57_0 hL) ?_
    refine r_step rfl rfl ?_
    refine r_iald rfl k (ti (by omega)) ⟨⟨by decide, by decide⟩, by show k < 59; omega⟩ ?_
    refine r_iast0 rfl k (ti (by omega)) ⟨⟨by decide, by decide⟩, by show k < 59; omega⟩ ?_
    iterate 2 refine r_step rfl rfl ?_
    show Rn hc_X10_tries 2 [some (.inr (some (10, 57))), some (.inl (nI k + 1))] [] _ _
    rw [nI_s1]
    refine ih (k + 1) _ o (by omega) (hL.put _ _ _) ?_
    have e := cp_step (T.2.1 59) (T.2.1 58) 0 0 hkl
    rw [Nat.zero_add] at e
    rw [hPut_at, hPut_ne (show 58 ≠ 59 by decide), hPut_eq, hRow_row, e]
    exact kk
theorem e_tries (S : hS) (hL : hLay S) : Ev 21 [.inr (some (10, 57))] S (none, hRow S 59 (cp (S.2.1 59) (S.2.1 58) 0 0 0 59)) := by
  show Rn hc_X10_tries 0 [some (.inr (some (10, 57))), none] [] S _
  iterate 2 refine r_step rfl rfl ?_
  refine tries_l 59 0 S _ (by omega) hL ?_
  exact r_retn rfl rfl
theorem cp0 (f g : Nat → Int32) {j : Nat} (h : j < 59) : cp f g 0 0 0 59 j = g j := by
  have := cp_at (f := f) (g := g) (a := 0) (b := 0) h
  rw [Nat.zero_add] at this
  exact this
end
section
/-! A gust, in rows. -/
def gWnd (i : Nat) (n v s4 : Int32) : Int32 := if n ≤ nI i then s4 else v
def gB (st : Nat → Int32) (n v s4 : Int32) : Nat → Nat → (Nat → Int32) → Int32
  | 0, _, _ => 1
  | d + 1, i, w => if wStep st (upd w 4 (gWnd i n v s4)) 0 = 5 then 0 else gB st n v s4 d (i + 1) (wStep st (upd w 4 (gWnd i n v s4)))
theorem gB_s (st : Nat → Int32) (n v s4 : Int32) (d i : Nat) (w : Nat → Int32) : gB st n v s4 (d + 1) i w = if wStep st (upd w 4 (gWnd i n v s4)) 0 = 5 then 0 else gB st n v s4 d (i + 1) (wStep st (upd w 4 (gWnd i n v s4))) := rfl
theorem wRng.up4 {st w : Nat → Int32} (h : wRng st w) {x : Int32} (hx : bt x 0 40) : wRng st (upd w 4 x) := by
  obtain ⟨r0, r1, r2, r3, r4, r5, r6, r7, r8, r9, r10, r15⟩ := h
  exact ⟨r0, r1, r2, r3, hx, r5, r6, r7, r8, r9, r10, r15⟩
theorem gWnd_bt {n v s4 : Int32} (i : Nat) (hv : bt v 0 40) (h4 : bt s4 0 40) : bt (gWnd i n v s4) 0 40 := by
  unfold gWnd
  by_cases c : n ≤ nI i
  · rw [if_pos c]; exact h4
  · rw [if_neg c]; exact hv
theorem gKeep {st w : Nat → Int32} (hs : okSet st) (h : wRng st w) (hp : wPot w) {x : Int32} (hx : bt x 0 40) : wRng st (wStep st (upd w 4 x)) ∧ wPot (wStep st (upd w 4 x)) := by
  have k := step_inv hs (h.up4 hx) (hp.slot 4 (by decide) x)
  exact ⟨k.1, k.2.1⟩
theorem gB_c {a b : Nat → Int32} (s : ∀ j, j < 6 → a j = b j) (n v s4 : Int32) : ∀ (d i : Nat) (w u : Nat → Int32), eq16 w u → gB a n v s4 d i w = gB b n v s4 d i u := by
  intro d
  induction d with
  | zero => intro i w u _; rfl
  | succ d ih =>
    intro i w u h
    have k := wStep_c (h.up 4 (x := gWnd i n v s4) rfl) s
    rw [gB_s, gB_s, k 0 (by decide), ih (i + 1) _ _ k]
set_option maxHeartbeats 4000000 in
set_option maxRecDepth 100000 in
theorem gust_c (n v s4 : Int32) (hv : bt v 0 40) (h4 : bt s4 0 40) : ∀ (d i : Nat) (T : hS), i + d = 60 → hLay T → T.2.1 7 4 = s4 → okSet (T.2.1 1) → wRng (T.2.1 1) (T.2.1 56) → wPot (T.2.1 56) → ∃ w', Rn hc_X9_bearsGust 16 [some (.inr (some (9, 0))), some (.inl v), some (.inl n), some (.inl (nI i))] [] T (some (gB (T.2.1 1) n v s4 d i (T.2.1 56)), hRow T 56 w') := by
  intro d
  induction d with
  | zero =>
    intro i T hi hL e4 hs hr hp
    have : i = 60 := by omega
    subst this
    refine ⟨T.2.1 56, ?_⟩
    rw [hRow_self]
    iterate 3 refine r_step rfl rfl ?_
    refine r_i_ge (fun _ => ?_) (fun q => absurd (show (60 : Int32) ≤ nI 60 by decide) q)
    refine r_step rfl rfl ?_
    exact r_retz rfl (Or.inr rfl) rfl rfl
  | succ d ih =>
    intro i T hi hL e4 hs hr hp
    obtain ⟨k1, k2⟩ := gKeep hs hr hp (gWnd_bt (n := n) i hv h4)
    have e1 : (hRow T 56 (wStep (T.2.1 1) (upd (T.2.1 56) 4 (gWnd i n v s4)))).2.1 1 = T.2.1 1 := hRow_ne _ _ (by decide)
    have e7 : (hRow T 56 (wStep (T.2.1 1) (upd (T.2.1 56) 4 (gWnd i n v s4)))).2.1 7 = T.2.1 7 := hRow_ne _ _ (by decide)
    obtain ⟨w', ihk⟩ := ih (i + 1) (hRow T 56 (wStep (T.2.1 1) (upd (T.2.1 56) 4 (gWnd i n v s4)))) (by omega) (hL.row _ _) (by rw [e7]; exact e4) (by rw [e1]; exact hs) (by rw [e1, hRow_at]; exact k1) (by rw [hRow_at]; exact k2)
    rw [e1, hRow_at, hRow_row] at ihk
    have mid : ∃ w', Rn hc_X9_bearsGust 45 [some (.inr (some (9, 0))), some (.inl v), some (.inl n), some (.inl (nI i))] [.inl (gWnd i n v s4), .inr (some (8, 56))] T (some (gB (T.2.1 1) n v s4 (d + 1) i (T.2.1 56)), hRow T 56 w') := by
      rw [gB_s]
      by_cases c : wStep (T.2.1 1) (upd (T.2.1 56) 4 (gWnd i n v s4)) 0 = 5
      · refine ⟨wStep (T.2.1 1) (upd (T.2.1 56) 4 (gWnd i n v s4)), ?_⟩
        rw [if_pos c]
        iterate 2 refine r_step rfl rfl ?_
        refine r_getr rfl (rv_0_9 (hL.put _ _ _)) ?_
        refine r_step rfl rfl ?_
        refine r_getr rfl (rv_0_0 (hL.put _ _ _)) ?_
        refine r_callv rfl rfl (e_step 56 1 (hPut T 56 4 (gWnd i n v s4)) (by decide) (by rw [hPut_at, pk_un (by decide)]; exact hr.1)) ?_
        rw [hPut_at, hPut_ne (show 1 ≠ 56 by decide), hPut_eq, hRow_row]
        refine r_step rfl rfl ?_
        refine r_getr rfl (rv_0_9 (hL.row _ _)) ?_
        iterate 3 refine r_step rfl rfl ?_
        rw [hRow_at]
        refine r_i_ne (fun q => absurd c q) (fun _ => ?_)
        refine r_step rfl rfl ?_
        exact r_retz rfl (Or.inl rfl) rfl rfl
      · refine ⟨w', ?_⟩
        rw [if_neg c]
        iterate 2 refine r_step rfl rfl ?_
        refine r_getr rfl (rv_0_9 (hL.put _ _ _)) ?_
        refine r_step rfl rfl ?_
        refine r_getr rfl (rv_0_0 (hL.put _ _ _)) ?_
        refine r_callv rfl rfl (e_step 56 1 (hPut T 56 4 (gWnd i n v s4)) (by decide) (by rw [hPut_at, pk_un (by decide)]; exact hr.1)) ?_
        rw [hPut_at, hPut_ne (show 1 ≠ 56 by decide), hPut_eq, hRow_row]
        refine r_step rfl rfl ?_
        refine r_getr rfl (rv_0_9 (hL.row _ _)) ?_
        iterate 3 refine r_step rfl rfl ?_
        rw [hRow_at]
        refine r_i_ne (fun _ => ?_) (fun q => absurd q c)
        iterate 2 refine r_step rfl rfl ?_
        show Rn hc_X9_bearsGust 16 [some (.inr (some (9, 0))), some (.inl v), some (.inl n), some (.inl (nI i + 1))] [] _ _
        rw [nI_s1]
        exact ihk
    obtain ⟨w2, mid⟩ := mid
    refine ⟨w2, ?_⟩
    iterate 3 refine r_step rfl rfl ?_
    refine r_i_ge (fun q => absurd q (lt_lit (N := 60) rfl (by decide) (by omega))) (fun _ => ?_)
    refine r_step rfl rfl ?_
    refine r_getr rfl (rv_0_9 hL) ?_
    iterate 3 refine r_step rfl rfl ?_
    by_cases c : n ≤ nI i
    · rw [show gWnd i n v s4 = s4 from if_pos c] at mid
      refine r_i_ge (fun _ => ?_) (fun q => absurd c q)
      refine r_step rfl rfl ?_
      refine r_getr rfl (rv_0_3 hL) ?_
      refine r_getr rfl (rv_6_0 hL) ?_
      refine r_step rfl rfl ?_
      rw [e4]
      exact mid
    · rw [show gWnd i n v s4 = v from if_neg c] at mid
      refine r_i_ge (fun q => absurd q c) (fun _ => ?_)
      iterate 2 refine r_step rfl rfl ?_
      exact mid
end
section
/-! A gust in the model. -/
theorem bears_x (n v i : Int32) (T : hS) : Rn hc_X10_bears 23 [some (.inr (some (10, 57))), some (.inl n), some (.inl v), some (.inl 0), some (.inl i)] [] T (some 0, T) := by
  have out : Rn hc_X10_bears 86 [some (.inr (some (10, 57))), some (.inl n), some (.inl v), some (.inl 0), some (.inl i)] [] T (some 0, T) := by
    refine r_step rfl rfl ?_
    exact r_retz rfl (Or.inl rfl) rfl rfl
  iterate 3 refine r_step rfl rfl ?_
  refine r_i_ge (fun _ => out) (fun _ => ?_)
  iterate 2 refine r_step rfl rfl ?_
  exact out
set_option maxHeartbeats 4000000 in
set_option maxRecDepth 100000 in
theorem gust_m (n v s4 : Int32) (hv : bt v 0 40) (h4 : bt s4 0 40) : ∀ (d i : Nat) (T : hS), i + d = 60 → hLay T → T.2.1 58 4 = s4 → okSet (T.2.1 63) → wRng (T.2.1 63) (T.2.1 59) → wPot (T.2.1 59) → ∃ w', Rn hc_X10_bears 23 [some (.inr (some (10, 57))), some (.inl n), some (.inl v), some (.inl 1), some (.inl (nI i))] [] T (some (gB (T.2.1 63) n v s4 d i (T.2.1 59)), hRow T 59 w') := by
  intro d
  induction d with
  | zero =>
    intro i T hi hL e4 hs hr hp
    have : i = 60 := by omega
    subst this
    refine ⟨T.2.1 59, ?_⟩
    rw [hRow_self]
    iterate 3 refine r_step rfl rfl ?_
    refine r_i_ge (fun _ => ?_) (fun q => absurd (show (60 : Int32) ≤ nI 60 by decide) q)
    refine r_step rfl rfl ?_
    exact r_retz rfl (Or.inr rfl) rfl rfl
  | succ d ih =>
    intro i T hi hL e4 hs hr hp
    have hb := gWnd_bt (n := n) i hv h4
    obtain ⟨k1, k2⟩ := gKeep hs hr hp hb
    have ge := (goes_eq hs (hr.up4 hb)).1
    have lo : eq16 (mGoes (T.2.1 63) (upd (T.2.1 59) 4 (gWnd i n v s4))) (wStep (T.2.1 63) (upd (T.2.1 59) 4 (gWnd i n v s4))) := fun j hj => by rw [ge, pk_un (by omega)]
    generalize hu : mGoes (T.2.1 63) (upd (T.2.1 59) 4 (gWnd i n v s4)) = u at lo
    have e1 : (hRow T 59 u).2.1 63 = T.2.1 63 := hRow_ne _ _ (by decide)
    have e7 : (hRow T 59 u).2.1 58 = T.2.1 58 := hRow_ne _ _ (by decide)
    obtain ⟨w', ihk⟩ := ih (i + 1) (hRow T 59 u) (by omega) (hL.row _ _) (by rw [e7]; exact e4) (by rw [e1]; exact hs) (by rw [e1, hRow_at]; exact k1.congr rfl lo) (by rw [hRow_at]; exact k2.congr (lo 0 (by decide)) (lo 1 (by decide)) (lo 2 (by decide)))
    rw [e1, hRow_at, hRow_row, gB_c (fun _ _ => rfl) n v s4 d (i + 1) u _ lo] at ihk
    have mid : ∃ w', Rn hc_X10_bears 55 [some (.inr (some (10, 57))), some (.inl n), some (.inl v), some (.inl 1), some (.inl (nI i))] [.inl (gWnd i n v s4), .inl 4, .inr (some (10059, 59))] T (some (gB (T.2.1 63) n v s4 (d + 1) i (T.2.1 59)), hRow T 59 w') := by
      rw [gB_s]
      have go : ∀ o, Rn hc_X10_bears 71 [some (.inr (some (10, 57))), some (.inl n), some (.inl v), some (.inl 1), some (.inl (nI i))] [.inl 5, .inl (u 0)] (hRow T 59 u) o → Rn hc_X10_bears 55 [some (.inr (some (10, 57))), some (.inl n), some (.inl v), some (.inl 1), some (.inl (nI i))] [.inl (gWnd i n v s4), .inl 4, .inr (some (10059, 59))] T o := by
        intro o q
        refine r_iast0 rfl 4 rfl ⟨⟨by decide, by decide⟩, by decide⟩ ?_
        iterate 2 refine r_step rfl rfl ?_
        refine r_getr rfl (rv_57_1 (hL.put _ _ _)) ?_
        refine r_callv rfl rfl (e_goesOn 59 (hPut T 59 4 (gWnd i n v s4)) (rv_57_6 (hL.put _ _ _)) (by decide) (by rw [hPut_at, pk_un (by decide)]; exact hr.1)) ?_
        rw [hPut_at, hPut_ne (show 63 ≠ 59 by decide), hPut_eq, hRow_row, hu]
        refine r_step rfl rfl ?_
        refine r_getr rfl (rv_57_1 (hL.row _ _)) ?_
        refine r_step rfl rfl ?_
        refine r_iald rfl 0 rfl ⟨⟨by decide, by decide⟩, by decide⟩ ?_
        refine r_step rfl rfl ?_
        rw [hRow_at]
        exact q
      by_cases c : wStep (T.2.1 63) (upd (T.2.1 59) 4 (gWnd i n v s4)) 0 = 5
      · refine ⟨u, go _ ?_⟩
        rw [if_pos c]
        refine r_step rfl rfl ?_
        refine r_i_eq (fun _ => ?_) (fun q => absurd ((lo 0 (by decide)).trans c) q)
        iterate 4 refine r_step rfl rfl ?_
        exact bears_x n v _ _
      · refine ⟨w', go _ ?_⟩
        rw [if_neg c]
        refine r_step rfl rfl ?_
        refine r_i_eq (fun q => absurd ((lo 0 (by decide)).symm.trans q) c) (fun _ => ?_)
        iterate 5 refine r_step rfl rfl ?_
        show Rn hc_X10_bears 23 [some (.inr (some (10, 57))), some (.inl n), some (.inl v), some (.inl 1), some (.inl (nI i + 1))] [] _ _
        rw [nI_s1]
        exact ihk
    obtain ⟨w2, mid⟩ := mid
    refine ⟨w2, ?_⟩
    iterate 3 refine r_step rfl rfl ?_
    refine r_i_ge (fun q => absurd q (lt_lit (N := 60) rfl (by decide) (by omega))) (fun _ => ?_)
    iterate 3 refine r_step rfl rfl ?_
    refine r_getr rfl (rv_57_1 hL) ?_
    iterate 4 refine r_step rfl rfl ?_
    by_cases c : n ≤ nI i
    · rw [show gWnd i n v s4 = s4 from if_pos c] at mid
      refine r_i_ge (fun _ => ?_) (fun q => absurd c q)
      refine r_step rfl rfl ?_
      refine r_getr rfl (rv_57_0 hL) ?_
      refine r_step rfl rfl ?_
      refine r_iald rfl 4 rfl ⟨⟨by decide, by decide⟩, by decide⟩ ?_
      rw [e4]
      exact mid
    · rw [show gWnd i n v s4 = v from if_neg c] at mid
      refine r_i_ge (fun q => absurd q c) (fun _ => ?_)
      iterate 2 refine r_step rfl rfl ?_
      exact mid
end
section
/-! gust. -/
/-- the largest below m that bears -/
def best (B : Nat → Int32) : Nat → Int32
  | 0 => -9
  | m + 1 => if B m = 0 then best B m else nI m
theorem best_s (B : Nat → Int32) (m : Nat) : best B (m + 1) = if B m = 0 then best B m else nI m := rfl
theorem best_0 (B : Nat → Int32) (h : ∀ k, B k = 0) : ∀ m, best B m = -9
  | 0 => rfl
  | m + 1 => by rw [best_s, if_pos (h m), best_0 B h m]
theorem best_c {B D : Nat → Int32} {N : Nat} (h : ∀ k, k < N → B k = D k) : ∀ m, m ≤ N → best B m = best D m
  | 0, _ => rfl
  | m + 1, hm => by rw [best_s, best_s, h m hm, best_c h m (by omega)]
theorem bt_n {k : Nat} {hi : Int} (h : (k : Int) ≤ hi) (hk : k < 2147483648) : bt (nI k) 0 hi := by
  unfold bt
  rw [ti hk]
  omega
theorem e_bearsGust (n v : Int32) (S : hS) (hL : hLay S) (hv : bt v 0 40) (hs : okSet (S.2.1 1)) (hr : wRng (S.2.1 1) (S.2.1 7)) (hp : wPot (S.2.1 7)) : ∃ w', Ev 126 [.inr (some (9, 0)), .inl v, .inl n] S (some (gB (S.2.1 1) n v (S.2.1 7 4) 60 0 (S.2.1 7)), hRow S 56 w') := by
  have lo : eq16 (wCopy (S.2.1 56) (S.2.1 7)) (S.2.1 7) := fun j hj => wCopy_at j hj
  generalize hu : wCopy (S.2.1 56) (S.2.1 7) = u at lo
  have e1 : (hRow S 56 u).2.1 1 = S.2.1 1 := hRow_ne _ _ (by decide)
  have e7 : (hRow S 56 u).2.1 7 = S.2.1 7 := hRow_ne _ _ (by decide)
  obtain ⟨w', k⟩ := gust_c n v (S.2.1 7 4) hv hr.2.2.2.2.1 60 0 (hRow S 56 u) (by omega) (hL.row _ _) (by rw [e7]) (by rw [e1]; exact hs) (by rw [e1, hRow_at]; exact hr.congr rfl lo) (by rw [hRow_at]; exact hp.congr (lo 0 (by decide)) (lo 1 (by decide)) (lo 2 (by decide)))
  rw [e1, hRow_at, hRow_row, gB_c (fun _ _ => rfl) n v (S.2.1 7 4) 60 0 u _ lo] at k
  refine ⟨w', ?_⟩
  show Rn hc_X9_bearsGust 0 [some (.inr (some (9, 0))), some (.inl v), some (.inl n), none] [] S _
  refine r_step rfl rfl ?_
  refine r_getr rfl (rv_0_9 hL) ?_
  refine r_step rfl rfl ?_
  refine r_getr rfl (rv_0_3 hL) ?_
  refine r_getr rfl (rv_6_0 hL) ?_
  refine r_callv rfl rfl (e_wcopy 56 7 S (by decide) hr.2.2.2.2.2.2.2.2.2.1 hr.2.2.2.2.2.2.2.2.2.2.1 hr.2.2.2.2.2.2.2.2.2.2.2) ?_
  rw [hu]
  iterate 2 refine r_step rfl rfl ?_
  exact k
def gM (st : Nat → Int32) (n v : Int32) (w : Nat → Int32) : Int32 := if w 0 = 5 then 0 else gB st n v (w 4) 60 0 w
theorem e_bears (n v : Int32) (S : hS) (hL : hLay S) (hv : bt v 0 40) (hs : okSet (S.2.1 63)) (hr : wRng (S.2.1 63) (S.2.1 58)) (hp : wPot (S.2.1 58)) : ∃ w', Ev 149 [.inr (some (10, 57)), .inl n, .inl v] S (some (gM (S.2.1 63) n v (S.2.1 58)), hRow S 59 w') := by
  have lo : eq16 (cp (S.2.1 59) (S.2.1 58) 0 0 0 59) (S.2.1 58) := fun j hj => cp0 _ _ (by omega)
  generalize hu : cp (S.2.1 59) (S.2.1 58) 0 0 0 59 = u at lo
  have start : ∀ o, Rn hc_X10_bears 11 [some (.inr (some (10, 57))), some (.inl n), some (.inl v), none, none] [.inl 5, .inl (u 0)] (hRow S 59 u) o → Ev 149 [.inr (some (10, 57)), .inl n, .inl v] S o := by
    intro o q
    show Rn hc_X10_bears 0 [some (.inr (some (10, 57))), some (.inl n), some (.inl v), none, none] [] S _
    refine r_step rfl rfl ?_
    refine r_callv rfl rfl (e_tries S hL) ?_
    rw [hu]
    refine r_step rfl rfl ?_
    refine r_getr rfl (rv_57_1 (hL.row _ _)) ?_
    refine r_step rfl rfl ?_
    refine r_iald rfl 0 rfl ⟨⟨by decide, by decide⟩, by decide⟩ ?_
    refine r_step rfl rfl ?_
    rw [hRow_at]
    exact q
  by_cases c : S.2.1 58 0 = 5
  · refine ⟨u, ?_⟩
    rw [show gM (S.2.1 63) n v (S.2.1 58) = 0 from if_pos c]
    refine start _ ?_
    refine r_step rfl rfl ?_
    refine r_i_eq (fun _ => ?_) (fun q => absurd ((lo 0 (by decide)).trans c) q)
    iterate 4 refine r_step rfl rfl ?_
    exact bears_x n v _ _
  · have e1 : (hRow S 59 u).2.1 63 = S.2.1 63 := hRow_ne _ _ (by decide)
    have e7 : (hRow S 59 u).2.1 58 = S.2.1 58 := hRow_ne _ _ (by decide)
    obtain ⟨w', k⟩ := gust_m n v (S.2.1 58 4) hv hr.2.2.2.2.1 60 0 (hRow S 59 u) (by omega) (hL.row _ _) (by rw [e7]) (by rw [e1]; exact hs) (by rw [e1, hRow_at]; exact hr.congr rfl lo) (by rw [hRow_at]; exact hp.congr (lo 0 (by decide)) (lo 1 (by decide)) (lo 2 (by decide)))
    rw [e1, hRow_at, hRow_row, gB_c (fun _ _ => rfl) n v (S.2.1 58 4) 60 0 u _ lo] at k
    refine ⟨w', ?_⟩
    rw [show gM (S.2.1 63) n v (S.2.1 58) = gB (S.2.1 63) n v (S.2.1 58 4) 60 0 (S.2.1 58) from if_neg c]
    refine start _ ?_
    refine r_step rfl rfl ?_
    refine r_i_eq (fun q => absurd ((lo 0 (by decide)).symm.trans q) c) (fun _ => ?_)
    iterate 5 refine r_step rfl rfl ?_
    exact k
theorem gl_c (x : Int32) (st w : Nat → Int32) (hs : okSet st) (hr : wRng st w) (hp : wPot w) : ∀ (m : Nat) (T : hS), m ≤ 41 → hLay T → T.2.1 1 = st → T.2.1 7 = w → ∃ w', Rn hc_X9_gust 32 [some (.inr (some (9, 0))), some (.inl x), some (.inl (nI m + -1))] [] T (some (best (fun k => gB st x (nI k) (w 4) 60 0 w) m), hRow T 56 w') := by
  intro m
  induction m with
  | zero =>
    intro T hm hL e1 e7
    refine ⟨T.2.1 56, ?_⟩
    rw [hRow_self]
    iterate 2 refine r_step rfl rfl ?_
    refine r_i_lt (fun _ => ?_) (fun q => absurd (show nI 0 + -1 < 0 by decide) q)
    refine r_step rfl rfl ?_
    exact r_reti rfl rfl rfl
  | succ m ih =>
    intro T hm hL e1 e7
    obtain ⟨u, k⟩ := e_bearsGust x (nI m) T hL (bt_n (by omega) (by omega)) (by rw [e1]; exact hs) (by rw [e1, e7]; exact hr) (by rw [e7]; exact hp)
    rw [e1, e7] at k
    obtain ⟨w', ihk⟩ := ih (hRow T 56 u) (by omega) (hL.row _ _) (by rw [hRow_ne _ _ (by decide)]; exact e1) (by rw [hRow_ne _ _ (by decide)]; exact e7)
    rw [hRow_row] at ihk
    rw [best_s, nI_m1]
    by_cases c : gB st x (nI m) (w 4) 60 0 w = 0
    · refine ⟨w', ?_⟩
      rw [if_pos c]
      iterate 2 refine r_step rfl rfl ?_
      refine r_i_lt (fun q => absurd q (nI_pos (by omega))) (fun _ => ?_)
      iterate 3 refine r_step rfl rfl ?_
      refine r_call rfl rfl k ?_
      refine r_step rfl rfl ?_
      refine r_i_eq (fun _ => ?_) (fun q => absurd c q)
      iterate 2 refine r_step rfl rfl ?_
      exact ihk
    · refine ⟨u, ?_⟩
      rw [if_neg c]
      iterate 2 refine r_step rfl rfl ?_
      refine r_i_lt (fun q => absurd q (nI_pos (by omega))) (fun _ => ?_)
      iterate 3 refine r_step rfl rfl ?_
      refine r_call rfl rfl k ?_
      refine r_step rfl rfl ?_
      refine r_i_eq (fun q => absurd q c) (fun _ => ?_)
      refine r_step rfl rfl ?_
      exact r_reti rfl rfl rfl
theorem gl_m (x : Int32) (st w : Nat → Int32) (hs : okSet st) (hr : wRng st w) (hp : wPot w) : ∀ (d m : Nat) (T : hS), m + d = 41 → hLay T → T.2.1 63 = st → T.2.1 58 = w → ∃ w', Rn hc_X10_gust 17 [some (.inr (some (10, 57))), some (.inl x), some (.inl (best (fun k => gM st x (nI k) w) m)), some (.inl (nI m))] [] T (some (best (fun k => gM st x (nI k) w) 41), hRow T 59 w') := by
  intro d
  induction d with
  | zero =>
    intro m T hm hL e1 e7
    have : m = 41 := by omega
    subst this
    refine ⟨T.2.1 59, ?_⟩
    rw [hRow_self]
    iterate 3 refine r_step rfl rfl ?_
    refine r_i_gt (fun _ => ?_) (fun q => absurd (show (40 : Int32) < nI 41 by decide) q)
    refine r_step rfl rfl ?_
    exact r_reti rfl rfl rfl
  | succ d ih =>
    intro m T hm hL e1 e7
    obtain ⟨u, k⟩ := e_bears x (nI m) T hL (bt_n (by omega) (by omega)) (by rw [e1]; exact hs) (by rw [e1, e7]; exact hr) (by rw [e7]; exact hp)
    rw [e1, e7] at k
    obtain ⟨w', ihk⟩ := ih (m + 1) (hRow T 59 u) (by omega) (hL.row _ _) (by rw [hRow_ne _ _ (by decide)]; exact e1) (by rw [hRow_ne _ _ (by decide)]; exact e7)
    rw [hRow_row, best_s] at ihk
    refine ⟨w', ?_⟩
    iterate 3 refine r_step rfl rfl ?_
    refine r_i_gt (fun q => absurd q (fun q => absurd (nI_le (a := m) (b := 40) (by omega) (by decide)) (by rw [i_le]; rw [i_lt] at q; have l40 : (nI 40).toInt = 40 := rfl; have l41 : (40 : Int32).toInt = 40 := rfl; omega))) (fun _ => ?_)
    iterate 3 refine r_step rfl rfl ?_
    refine r_call rfl rfl k ?_
    refine r_step rfl rfl ?_
    by_cases c : gM st x (nI m) w = 0
    · rw [if_pos c] at ihk
      refine r_i_eq (fun _ => ?_) (fun q => absurd c q)
      iterate 4 refine r_step rfl rfl ?_
      show Rn hc_X10_gust 17 [some (.inr (some (10, 57))), some (.inl x), some (.inl (best (fun k => gM st x (nI k) w) m)), some (.inl (nI m + 1))] [] _ _
      rw [nI_s1]
      exact ihk
    · rw [if_neg c] at ihk
      refine r_i_eq (fun q => absurd q c) (fun _ => ?_)
      iterate 5 refine r_step rfl rfl ?_
      show Rn hc_X10_gust 17 [some (.inr (some (10, 57))), some (.inl x), some (.inl (nI m)), some (.inl (nI m + 1))] [] _ _
      rw [nI_s1]
      exact ihk
theorem a_gust {S : hS} (h : Rel S) (x : Int32) : Alk 139 157 [.inl x] S := by
  have hL := h.1
  have hm := h.2.2.2.1
  rcases mIn_iff (v := x) (lo := 1) (hi := 20) with ⟨kx, -⟩ | ⟨kx, x1, x2⟩
  · refine ⟨-1, S, S, ?_, ?_, h⟩
    · show Rn hc_X9_gust 0 [some (.inr (some (9, 0))), some (.inl x), none] [] S _
      iterate 3 refine r_step rfl rfl ?_
      refine r_call rfl rfl (e_within _ _ _ _) ?_
      rw [kx]
      iterate 2 refine r_step rfl rfl ?_
      exact r_reti rfl rfl rfl
    · show Rn hc_X10_gust 0 [some (.inr (some (10, 57))), some (.inl x), none, none] [] S _
      iterate 3 refine r_step rfl rfl ?_
      refine r_call rfl rfl (e_in _ _ _ _) ?_
      rw [kx]
      iterate 2 refine r_step rfl rfl ?_
      exact r_reti rfl rfl rfl
  have startC : ∀ o, Rn hc_X9_gust 23 [some (.inr (some (9, 0))), some (.inl x), none] [.inl 5, .inl (S.2.1 7 0)] S o → Ev 139 [.inr (some (9, 0)), .inl x] S o := by
    intro o q
    show Rn hc_X9_gust 0 [some (.inr (some (9, 0))), some (.inl x), none] [] S _
    iterate 3 refine r_step rfl rfl ?_
    refine r_call rfl rfl (e_within _ _ _ _) ?_
    rw [kx]
    iterate 2 refine r_step rfl rfl ?_
    refine r_getr rfl (rv_0_3 hL) ?_
    refine r_getr rfl (rv_6_0 hL) ?_
    iterate 2 refine r_step rfl rfl ?_
    exact q
  have e16 : eq16 (S.2.1 7) (S.2.1 58) := hm.1.1
  have hsC : okSet (S.2.1 1) := h.2.1.1.congr h.2.1.2
  have hrC : wRng (S.2.1 1) (S.2.1 7) := hm.2.1.congr (h.2.1.2 4 (by decide)) e16
  have hpC : wPot (S.2.1 7) := hm.2.2.1.congr (e16 0 (by decide)) (e16 1 (by decide)) (e16 2 (by decide))
  have endM : ∀ T, hLay T → T.2.1 63 = S.2.1 63 → T.2.1 58 = S.2.1 58 → ∃ w', Ev 157 [.inr (some (10, 57)), .inl x] T (some (best (fun k => gM (S.2.1 63) x (nI k) (S.2.1 58)) 41), hRow T 59 w') := by
    intro T hT t1 t2
    obtain ⟨w', k⟩ := gl_m x (S.2.1 63) (S.2.1 58) h.2.1.1 hm.2.1 hm.2.2.1 41 0 T (by omega) hT t1 t2
    refine ⟨w', ?_⟩
    show Rn hc_X10_gust 0 [some (.inr (some (10, 57))), some (.inl x), none, none] [] T _
    iterate 3 refine r_step rfl rfl ?_
    refine r_call rfl rfl (e_in _ _ _ _) ?_
    rw [kx]
    iterate 5 refine r_step rfl rfl ?_
    exact k
  by_cases c : S.2.1 58 0 = 5
  · obtain ⟨w', k⟩ := endM S hL rfl rfl
    rw [best_0 (fun k => gM (S.2.1 63) x (nI k) (S.2.1 58)) (fun k => if_pos c) 41] at k
    refine ⟨-9, S, hRow S 59 w', startC _ ?_, k, ?_⟩
    · refine r_step rfl rfl ?_
      refine r_i_ne (fun q => absurd ((e16 0 (by decide)).trans c) q) (fun _ => ?_)
      refine r_step rfl rfl ?_
      exact r_reti rfl rfl rfl
    · refine rel_scr h (hFr_row _ _ _ (by unfold pScr; omega)) ?_ ?_ ?_ <;> rw [hRow_ne _ _ (by decide)]
  · obtain ⟨u, k1⟩ := gl_c x (S.2.1 1) (S.2.1 7) hsC hrC hpC 41 S (by omega) hL rfl rfl
    obtain ⟨w', k2⟩ := endM (hRow S 56 u) (hL.row _ _) (hRow_ne _ _ (by decide)) (hRow_ne _ _ (by decide))
    have e : best (fun k => gB (S.2.1 1) x (nI k) (S.2.1 7 4) 60 0 (S.2.1 7)) 41 = best (fun k => gM (S.2.1 63) x (nI k) (S.2.1 58)) 41 := by
      refine best_c (N := 41) (fun k hk => ?_) 41 (by omega)
      show gB (S.2.1 1) x (nI k) (S.2.1 7 4) 60 0 (S.2.1 7) = gM (S.2.1 63) x (nI k) (S.2.1 58)
      rw [show gM (S.2.1 63) x (nI k) (S.2.1 58) = _ from if_neg c, e16 4 (by decide)]
      exact gB_c h.2.1.2 _ _ _ _ _ _ _ e16
    refine ⟨best (fun k => gM (S.2.1 63) x (nI k) (S.2.1 58)) 41, hRow S 56 u, hRow (hRow S 56 u) 59 w', startC _ ?_, k2, ?_⟩
    · refine r_step rfl rfl ?_
      refine r_i_ne (fun _ => ?_) (fun q => absurd ((e16 0 (by decide)).symm.trans q) c)
      iterate 2 refine r_step rfl rfl ?_
      rw [← e]
      exact k1
    · refine rel_scr h ((hFr_row _ _ _ (by unfold pScr; omega)).trans (hFr_row _ _ _ (by unfold pScr; omega))) ?_ ?_ ?_ <;> rw [hRow_ne _ _ (by decide), hRow_ne _ _ (by decide)]
end
section
/-! dip. -/
def dG (i : Nat) (n : Int32) : Int32 := if nI i < n then 0 else 1
def dB (st : Nat → Int32) (n : Int32) : Nat → Nat → (Nat → Int32) → Int32
  | 0, _, _ => 1
  | d + 1, i, w => if 4 ≤ wStep st (upd w 9 (dG i n)) 0 then 0 else dB st n d (i + 1) (wStep st (upd w 9 (dG i n)))
theorem dB_s (st : Nat → Int32) (n : Int32) (d i : Nat) (w : Nat → Int32) : dB st n (d + 1) i w = if 4 ≤ wStep st (upd w 9 (dG i n)) 0 then 0 else dB st n d (i + 1) (wStep st (upd w 9 (dG i n))) := rfl
theorem dG_b (i : Nat) (n : Int32) : isB (dG i n) := by
  unfold dG
  by_cases c : nI i < n
  · rw [if_pos c]; exact Or.inl rfl
  · rw [if_neg c]; exact Or.inr rfl
theorem wRng.up9 {st w : Nat → Int32} (h : wRng st w) {x : Int32} (hx : isB x) : wRng st (upd w 9 x) := by
  obtain ⟨r0, r1, r2, r3, r4, r5, r6, r7, r8, r9, r10, r15⟩ := h
  exact ⟨r0, r1, r2, r3, r4, r5, r6, r7, r8, hx, r10, r15⟩
theorem dKeep {st w : Nat → Int32} (hs : okSet st) (h : wRng st w) (hp : wPot w) {x : Int32} (hx : isB x) : wRng st (wStep st (upd w 9 x)) ∧ wPot (wStep st (upd w 9 x)) := by
  have k := step_inv hs (h.up9 hx) (hp.slot 9 (by decide) x)
  exact ⟨k.1, k.2.1⟩
theorem dB_c {a b : Nat → Int32} (s : ∀ j, j < 6 → a j = b j) (n : Int32) : ∀ (d i : Nat) (w u : Nat → Int32), eq16 w u → dB a n d i w = dB b n d i u := by
  intro d
  induction d with
  | zero => intro i w u _; rfl
  | succ d ih =>
    intro i w u h
    have k := wStep_c (h.up 9 (x := dG i n) rfl) s
    rw [dB_s, dB_s, k 0 (by decide), ih (i + 1) _ _ k]
theorem mode4 {m : Int32} (h : isMode m) : 4 ≤ m ↔ (m = 4 ∨ m = 5) := by
  rcases h with rfl | rfl | rfl | rfl | rfl | rfl <;> decide
set_option maxHeartbeats 4000000 in
set_option maxRecDepth 100000 in
theorem dip_c (n : Int32) : ∀ (d i : Nat) (T : hS), i + d = 60 → hLay T → okSet (T.2.1 1) → wRng (T.2.1 1) (T.2.1 56) → wPot (T.2.1 56) → ∃ w', Rn hc_X9_ridesDip 16 [some (.inr (some (9, 0))), some (.inl n), some (.inl (nI i))] [] T (some (dB (T.2.1 1) n d i (T.2.1 56)), hRow T 56 w') := by
  intro d
  induction d with
  | zero =>
    intro i T hi hL hs hr hp
    have : i = 60 := by omega
    subst this
    refine ⟨T.2.1 56, ?_⟩
    rw [hRow_self]
    iterate 3 refine r_step rfl rfl ?_
    refine r_i_ge (fun _ => ?_) (fun q => absurd (show (60 : Int32) ≤ nI 60 by decide) q)
    refine r_step rfl rfl ?_
    exact r_retz rfl (Or.inr rfl) rfl rfl
  | succ d ih =>
    intro i T hi hL hs hr hp
    have hb := dG_b i n
    obtain ⟨k1, k2⟩ := dKeep hs hr hp hb
    generalize hu : wStep (T.2.1 1) (upd (T.2.1 56) 9 (dG i n)) = u at k1 k2
    have e1 : (hRow T 56 u).2.1 1 = T.2.1 1 := hRow_ne _ _ (by decide)
    obtain ⟨w', ihk⟩ := ih (i + 1) (hRow T 56 u) (by omega) (hL.row _ _) (by rw [e1]; exact hs) (by rw [e1, hRow_at]; exact k1) (by rw [hRow_at]; exact k2)
    rw [e1, hRow_at, hRow_row] at ihk
    have go : ∀ o, Rn hc_X9_ridesDip 58 [some (.inr (some (9, 0))), some (.inl n), some (.inl (nI i))] [.inl 4, .inl (u 0)] (hRow T 56 u) o → Rn hc_X9_ridesDip 36 [some (.inr (some (9, 0))), some (.inl n), some (.inl (nI i))] [.inl (dG i n), .inr (some (8, 56))] T o := by
      intro o q
      refine r_putz rfl hb (fun _ e => ?_)
      subst e
      refine r_step rfl rfl ?_
      refine r_getr rfl (rv_0_9 (hL.put _ _ _)) ?_
      refine r_step rfl rfl ?_
      refine r_getr rfl (rv_0_0 (hL.put _ _ _)) ?_
      refine r_callv rfl rfl (e_step 56 1 (hPut T 56 9 (dG i n)) (by decide) (by rw [hPut_at, pk_un (by decide)]; exact hr.1)) ?_
      rw [hPut_at, hPut_ne (show 1 ≠ 56 by decide), hPut_eq, hRow_row, hu]
      refine r_step rfl rfl ?_
      refine r_getr rfl (rv_0_9 (hL.row _ _)) ?_
      iterate 2 refine r_step rfl rfl ?_
      rw [hRow_at]
      exact q
    have mid : ∃ w', Rn hc_X9_ridesDip 36 [some (.inr (some (9, 0))), some (.inl n), some (.inl (nI i))] [.inl (dG i n), .inr (some (8, 56))] T (some (dB (T.2.1 1) n (d + 1) i (T.2.1 56)), hRow T 56 w') := by
      rw [dB_s, hu]
      have out : Rn hc_X9_ridesDip 72 [some (.inr (some (9, 0))), some (.inl n), some (.inl (nI i))] [] (hRow T 56 u) (some 0, hRow T 56 u) := by
        refine r_step rfl rfl ?_
        exact r_retz rfl (Or.inl rfl) rfl rfl
      have m4 := mode4 k1.1
      by_cases c : 4 ≤ u 0
      · refine ⟨u, go _ ?_⟩
        rw [if_pos c]
        refine r_step rfl rfl ?_
        refine r_i_eq (fun _ => out) (fun q => ?_)
        refine r_step rfl rfl ?_
        refine r_getr rfl (rv_0_9 (hL.row _ _)) ?_
        iterate 3 refine r_step rfl rfl ?_
        rw [hRow_at]
        refine r_i_ne (fun p => absurd (m4.1 c) (fun x => x.elim q p)) (fun _ => out)
      · refine ⟨w', go _ ?_⟩
        rw [if_neg c]
        refine r_step rfl rfl ?_
        refine r_i_eq (fun q => absurd (m4.2 (Or.inl q)) c) (fun _ => ?_)
        refine r_step rfl rfl ?_
        refine r_getr rfl (rv_0_9 (hL.row _ _)) ?_
        iterate 3 refine r_step rfl rfl ?_
        rw [hRow_at]
        refine r_i_ne (fun _ => ?_) (fun q => absurd (m4.2 (Or.inr q)) c)
        iterate 2 refine r_step rfl rfl ?_
        show Rn hc_X9_ridesDip 16 [some (.inr (some (9, 0))), some (.inl n), some (.inl (nI i + 1))] [] _ _
        rw [nI_s1]
        exact ihk
    obtain ⟨w2, mid⟩ := mid
    refine ⟨w2, ?_⟩
    iterate 3 refine r_step rfl rfl ?_
    refine r_i_ge (fun q => absurd q (lt_lit (N := 60) rfl (by decide) (by omega))) (fun _ => ?_)
    refine r_step rfl rfl ?_
    refine r_getr rfl (rv_0_9 hL) ?_
    iterate 3 refine r_step rfl rfl ?_
    by_cases c : nI i < n
    · rw [show dG i n = 0 from if_pos c] at mid
      refine r_i_lt (fun _ => ?_) (fun q => absurd c q)
      refine r_step rfl rfl ?_
      exact mid
    · rw [show dG i n = 1 from if_neg c] at mid
      refine r_i_lt (fun q => absurd q c) (fun _ => ?_)
      iterate 2 refine r_step rfl rfl ?_
      exact mid
theorem rides_x (n i : Int32) (T : hS) : Rn hc_X10_rides 8 [some (.inr (some (10, 57))), some (.inl n), some (.inl 0), some (.inl i)] [] T (some 0, T) := by
  have out : Rn hc_X10_rides 65 [some (.inr (some (10, 57))), some (.inl n), some (.inl 0), some (.inl i)] [] T (some 0, T) := by
    refine r_step rfl rfl ?_
    exact r_retz rfl (Or.inl rfl) rfl rfl
  iterate 3 refine r_step rfl rfl ?_
  refine r_i_ge (fun _ => out) (fun _ => ?_)
  iterate 2 refine r_step rfl rfl ?_
  exact out
set_option maxHeartbeats 4000000 in
set_option maxRecDepth 100000 in
theorem dip_m (n : Int32) : ∀ (d i : Nat) (T : hS), i + d = 60 → hLay T → okSet (T.2.1 63) → wRng (T.2.1 63) (T.2.1 59) → wPot (T.2.1 59) → ∃ w', Rn hc_X10_rides 8 [some (.inr (some (10, 57))), some (.inl n), some (.inl 1), some (.inl (nI i))] [] T (some (dB (T.2.1 63) n d i (T.2.1 59)), hRow T 59 w') := by
  intro d
  induction d with
  | zero =>
    intro i T hi hL hs hr hp
    have : i = 60 := by omega
    subst this
    refine ⟨T.2.1 59, ?_⟩
    rw [hRow_self]
    iterate 3 refine r_step rfl rfl ?_
    refine r_i_ge (fun _ => ?_) (fun q => absurd (show (60 : Int32) ≤ nI 60 by decide) q)
    refine r_step rfl rfl ?_
    exact r_retz rfl (Or.inr rfl) rfl rfl
  | succ d ih =>
    intro i T hi hL hs hr hp
    have hb := dG_b i n
    obtain ⟨k1, k2⟩ := dKeep hs hr hp hb
    have ge := (goes_eq hs (hr.up9 hb)).1
    have lo : eq16 (mGoes (T.2.1 63) (upd (T.2.1 59) 9 (dG i n))) (wStep (T.2.1 63) (upd (T.2.1 59) 9 (dG i n))) := fun j hj => by rw [ge, pk_un (by omega)]
    generalize hu : mGoes (T.2.1 63) (upd (T.2.1 59) 9 (dG i n)) = u at lo
    have e1 : (hRow T 59 u).2.1 63 = T.2.1 63 := hRow_ne _ _ (by decide)
    obtain ⟨w', ihk⟩ := ih (i + 1) (hRow T 59 u) (by omega) (hL.row _ _) (by rw [e1]; exact hs) (by rw [e1, hRow_at]; exact k1.congr rfl lo) (by rw [hRow_at]; exact k2.congr (lo 0 (by decide)) (lo 1 (by decide)) (lo 2 (by decide)))
    rw [e1, hRow_at, hRow_row, dB_c (fun _ _ => rfl) n d (i + 1) u _ lo] at ihk
    have mid : ∃ w', Rn hc_X10_rides 34 [some (.inr (some (10, 57))), some (.inl n), some (.inl 1), some (.inl (nI i))] [.inl (dG i n), .inl 9, .inr (some (10059, 59))] T (some (dB (T.2.1 63) n (d + 1) i (T.2.1 59)), hRow T 59 w') := by
      rw [dB_s]
      have go : ∀ o, Rn hc_X10_rides 50 [some (.inr (some (10, 57))), some (.inl n), some (.inl 1), some (.inl (nI i))] [.inl 4, .inl (u 0)] (hRow T 59 u) o → Rn hc_X10_rides 34 [some (.inr (some (10, 57))), some (.inl n), some (.inl 1), some (.inl (nI i))] [.inl (dG i n), .inl 9, .inr (some (10059, 59))] T o := by
        intro o q
        refine r_iast0 rfl 9 rfl ⟨⟨by decide, by decide⟩, by decide⟩ ?_
        iterate 2 refine r_step rfl rfl ?_
        refine r_getr rfl (rv_57_1 (hL.put _ _ _)) ?_
        refine r_callv rfl rfl (e_goesOn 59 (hPut T 59 9 (dG i n)) (rv_57_6 (hL.put _ _ _)) (by decide) (by rw [hPut_at, pk_un (by decide)]; exact hr.1)) ?_
        rw [hPut_at, hPut_ne (show 63 ≠ 59 by decide), hPut_eq, hRow_row, hu]
        refine r_step rfl rfl ?_
        refine r_getr rfl (rv_57_1 (hL.row _ _)) ?_
        refine r_step rfl rfl ?_
        refine r_iald rfl 0 rfl ⟨⟨by decide, by decide⟩, by decide⟩ ?_
        refine r_step rfl rfl ?_
        rw [hRow_at]
        exact q
      have lo0 := lo 0 (by decide)
      by_cases c : 4 ≤ wStep (T.2.1 63) (upd (T.2.1 59) 9 (dG i n)) 0
      · refine ⟨u, go _ ?_⟩
        rw [if_pos c]
        refine r_step rfl rfl ?_
        refine r_i_ge (fun _ => ?_) (fun q => absurd (by rw [lo0]; exact c) q)
        iterate 4 refine r_step rfl rfl ?_
        exact rides_x n _ _
      · refine ⟨w', go _ ?_⟩
        rw [if_neg c]
        refine r_step rfl rfl ?_
        refine r_i_ge (fun q => absurd (by rw [← lo0]; exact q) c) (fun _ => ?_)
        iterate 5 refine r_step rfl rfl ?_
        show Rn hc_X10_rides 8 [some (.inr (some (10, 57))), some (.inl n), some (.inl 1), some (.inl (nI i + 1))] [] _ _
        rw [nI_s1]
        exact ihk
    obtain ⟨w2, mid⟩ := mid
    refine ⟨w2, ?_⟩
    iterate 3 refine r_step rfl rfl ?_
    refine r_i_ge (fun q => absurd q (lt_lit (N := 60) rfl (by decide) (by omega))) (fun _ => ?_)
    iterate 3 refine r_step rfl rfl ?_
    refine r_getr rfl (rv_57_1 hL) ?_
    iterate 4 refine r_step rfl rfl ?_
    by_cases c : n ≤ nI i
    · rw [show dG i n = 1 from if_neg (fun q => by rw [i_lt] at q; rw [i_le] at c; omega)] at mid
      refine r_i_ge (fun _ => ?_) (fun q => absurd c q)
      refine r_step rfl rfl ?_
      exact mid
    · rw [show dG i n = 0 from if_pos (by rw [i_le] at c; rw [i_lt]; omega)] at mid
      refine r_i_ge (fun q => absurd q c) (fun _ => ?_)
      iterate 2 refine r_step rfl rfl ?_
      exact mid
end
section
/-! dip, all of it. -/
theorem e_ridesDip (n : Int32) (S : hS) (hL : hLay S) (hs : okSet (S.2.1 1)) (hr : wRng (S.2.1 1) (S.2.1 7)) (hp : wPot (S.2.1 7)) : ∃ w', Ev 129 [.inr (some (9, 0)), .inl n] S (some (dB (S.2.1 1) n 60 0 (S.2.1 7)), hRow S 56 w') := by
  have lo : eq16 (wCopy (S.2.1 56) (S.2.1 7)) (S.2.1 7) := fun j hj => wCopy_at j hj
  generalize hu : wCopy (S.2.1 56) (S.2.1 7) = u at lo
  have e1 : (hRow S 56 u).2.1 1 = S.2.1 1 := hRow_ne _ _ (by decide)
  obtain ⟨w', k⟩ := dip_c n 60 0 (hRow S 56 u) (by omega) (hL.row _ _) (by rw [e1]; exact hs) (by rw [e1, hRow_at]; exact hr.congr rfl lo) (by rw [hRow_at]; exact hp.congr (lo 0 (by decide)) (lo 1 (by decide)) (lo 2 (by decide)))
  rw [e1, hRow_at, hRow_row, dB_c (fun _ _ => rfl) n 60 0 u _ lo] at k
  refine ⟨w', ?_⟩
  show Rn hc_X9_ridesDip 0 [some (.inr (some (9, 0))), some (.inl n), none] [] S _
  refine r_step rfl rfl ?_
  refine r_getr rfl (rv_0_9 hL) ?_
  refine r_step rfl rfl ?_
  refine r_getr rfl (rv_0_3 hL) ?_
  refine r_getr rfl (rv_6_0 hL) ?_
  refine r_callv rfl rfl (e_wcopy 56 7 S (by decide) hr.2.2.2.2.2.2.2.2.2.1 hr.2.2.2.2.2.2.2.2.2.2.1 hr.2.2.2.2.2.2.2.2.2.2.2) ?_
  rw [hu]
  iterate 2 refine r_step rfl rfl ?_
  exact k
theorem e_rides (n : Int32) (S : hS) (hL : hLay S) (hs : okSet (S.2.1 63)) (hr : wRng (S.2.1 63) (S.2.1 58)) (hp : wPot (S.2.1 58)) : ∃ w', Ev 150 [.inr (some (10, 57)), .inl n] S (some (dB (S.2.1 63) n 60 0 (S.2.1 58)), hRow S 59 w') := by
  have lo : eq16 (cp (S.2.1 59) (S.2.1 58) 0 0 0 59) (S.2.1 58) := fun j hj => cp0 _ _ (by omega)
  generalize hu : cp (S.2.1 59) (S.2.1 58) 0 0 0 59 = u at lo
  have e1 : (hRow S 59 u).2.1 63 = S.2.1 63 := hRow_ne _ _ (by decide)
  obtain ⟨w', k⟩ := dip_m n 60 0 (hRow S 59 u) (by omega) (hL.row _ _) (by rw [e1]; exact hs) (by rw [e1, hRow_at]; exact hr.congr rfl lo) (by rw [hRow_at]; exact hp.congr (lo 0 (by decide)) (lo 1 (by decide)) (lo 2 (by decide)))
  rw [e1, hRow_at, hRow_row, dB_c (fun _ _ => rfl) n 60 0 u _ lo] at k
  refine ⟨w', ?_⟩
  show Rn hc_X10_rides 0 [some (.inr (some (10, 57))), some (.inl n), none, none] [] S _
  refine r_step rfl rfl ?_
  refine r_callv rfl rfl (e_tries S hL) ?_
  rw [hu]
  iterate 4 refine r_step rfl rfl ?_
  exact k
theorem dl_c (mo : Int32) (st w : Nat → Int32) (hs : okSet st) (hr : wRng st w) (hp : wPot w) : ∀ (m : Nat) (T : hS), m ≤ 21 → hLay T → T.2.1 1 = st → T.2.1 7 = w → ∃ w', Rn hc_X9_dip 27 [some (.inr (some (9, 0))), some (.inl mo), some (.inl (nI m + -1))] [] T (some (best (fun k => dB st (nI k) 60 0 w) m), hRow T 56 w') := by
  intro m
  induction m with
  | zero =>
    intro T hm hL e1 e7
    refine ⟨T.2.1 56, ?_⟩
    rw [hRow_self]
    iterate 2 refine r_step rfl rfl ?_
    refine r_i_lt (fun _ => ?_) (fun q => absurd (show nI 0 + -1 < 0 by decide) q)
    refine r_step rfl rfl ?_
    exact r_reti rfl rfl rfl
  | succ m ih =>
    intro T hm hL e1 e7
    obtain ⟨u, k⟩ := e_ridesDip (nI m) T hL (by rw [e1]; exact hs) (by rw [e1, e7]; exact hr) (by rw [e7]; exact hp)
    rw [e1, e7] at k
    obtain ⟨w', ihk⟩ := ih (hRow T 56 u) (by omega) (hL.row _ _) (by rw [hRow_ne _ _ (by decide)]; exact e1) (by rw [hRow_ne _ _ (by decide)]; exact e7)
    rw [hRow_row] at ihk
    rw [best_s, nI_m1]
    by_cases c : dB st (nI m) 60 0 w = 0
    · refine ⟨w', ?_⟩
      rw [if_pos c]
      iterate 2 refine r_step rfl rfl ?_
      refine r_i_lt (fun q => absurd q (nI_pos (by omega))) (fun _ => ?_)
      iterate 2 refine r_step rfl rfl ?_
      refine r_call rfl rfl k ?_
      refine r_step rfl rfl ?_
      refine r_i_eq (fun _ => ?_) (fun q => absurd c q)
      iterate 2 refine r_step rfl rfl ?_
      exact ihk
    · refine ⟨u, ?_⟩
      rw [if_neg c]
      iterate 2 refine r_step rfl rfl ?_
      refine r_i_lt (fun q => absurd q (nI_pos (by omega))) (fun _ => ?_)
      iterate 2 refine r_step rfl rfl ?_
      refine r_call rfl rfl k ?_
      refine r_step rfl rfl ?_
      refine r_i_eq (fun q => absurd q c) (fun _ => ?_)
      refine r_step rfl rfl ?_
      exact r_reti rfl rfl rfl
/-- a number of at most N is not above the literal N -/
theorem ngt_lit {k N : Nat} {x : Int32} (hx : x = nI N) (hN : N < 2147483648) (h : k ≤ N) : ¬ x < nI k := by
  rw [hx, i_lt, ti hN, ti (by omega)]
  omega
theorem dl_m (st w : Nat → Int32) (hs : okSet st) (hr : wRng st w) (hp : wPot w) : ∀ (d m : Nat) (T : hS), m + d = 21 → hLay T → T.2.1 63 = st → T.2.1 58 = w → ∃ w', Rn hc_X10_dip 22 [some (.inr (some (10, 57))), some (.inl (best (fun k => dB st (nI k) 60 0 w) m)), some (.inl (nI m))] [] T (some (best (fun k => dB st (nI k) 60 0 w) 21), hRow T 59 w') := by
  intro d
  induction d with
  | zero =>
    intro m T hm hL e1 e7
    have : m = 21 := by omega
    subst this
    refine ⟨T.2.1 59, ?_⟩
    rw [hRow_self]
    iterate 3 refine r_step rfl rfl ?_
    refine r_i_gt (fun _ => ?_) (fun q => absurd (show (20 : Int32) < nI 21 by decide) q)
    refine r_step rfl rfl ?_
    exact r_reti rfl rfl rfl
  | succ d ih =>
    intro m T hm hL e1 e7
    obtain ⟨u, k⟩ := e_rides (nI m) T hL (by rw [e1]; exact hs) (by rw [e1, e7]; exact hr) (by rw [e7]; exact hp)
    rw [e1, e7] at k
    obtain ⟨w', ihk⟩ := ih (m + 1) (hRow T 59 u) (by omega) (hL.row _ _) (by rw [hRow_ne _ _ (by decide)]; exact e1) (by rw [hRow_ne _ _ (by decide)]; exact e7)
    rw [hRow_row, best_s] at ihk
    refine ⟨w', ?_⟩
    iterate 3 refine r_step rfl rfl ?_
    refine r_i_gt (fun q => absurd q (ngt_lit (N := 20) rfl (by decide) (by omega))) (fun _ => ?_)
    iterate 2 refine r_step rfl rfl ?_
    refine r_call rfl rfl k ?_
    refine r_step rfl rfl ?_
    by_cases c : dB st (nI m) 60 0 w = 0
    · rw [if_pos c] at ihk
      refine r_i_eq (fun _ => ?_) (fun q => absurd c q)
      iterate 4 refine r_step rfl rfl ?_
      show Rn hc_X10_dip 22 [some (.inr (some (10, 57))), some (.inl (best (fun k => dB st (nI k) 60 0 w) m)), some (.inl (nI m + 1))] [] _ _
      rw [nI_s1]
      exact ihk
    · rw [if_neg c] at ihk
      refine r_i_eq (fun q => absurd q c) (fun _ => ?_)
      iterate 5 refine r_step rfl rfl ?_
      show Rn hc_X10_dip 22 [some (.inr (some (10, 57))), some (.inl (nI m)), some (.inl (nI m + 1))] [] _ _
      rw [nI_s1]
      exact ihk
theorem mIn23 : ∀ {m : Int32}, isMode m → (mIn m 2 3 = 1 ∧ (m = 2 ∨ m = 3)) ∨ (mIn m 2 3 = 0 ∧ ¬ m = 2 ∧ ¬ m = 3) := by
  intro m h
  rcases h with rfl | rfl | rfl | rfl | rfl | rfl <;> decide
theorem a_dip {S : hS} (h : Rel S) : Alk 137 156 [] S := by
  have hL := h.1
  have hm := h.2.2.2.1
  have e16 : eq16 (S.2.1 7) (S.2.1 58) := hm.1.1
  have hsC : okSet (S.2.1 1) := h.2.1.1.congr h.2.1.2
  have hrC : wRng (S.2.1 1) (S.2.1 7) := hm.2.1.congr (h.2.1.2 4 (by decide)) e16
  have hpC : wPot (S.2.1 7) := hm.2.2.1.congr (e16 0 (by decide)) (e16 1 (by decide)) (e16 2 (by decide))
  have startC : ∀ o, Rn hc_X9_dip 11 [some (.inr (some (9, 0))), some (.inl (S.2.1 58 0)), none] [] S o → Ev 137 [.inr (some (9, 0))] S o := by
    intro o q
    show Rn hc_X9_dip 0 [some (.inr (some (9, 0))), none, none] [] S _
    refine r_step rfl rfl ?_
    refine r_getr rfl (rv_0_3 hL) ?_
    refine r_getr rfl (rv_6_0 hL) ?_
    iterate 2 refine r_step rfl rfl ?_
    rw [e16 0 (by decide)]
    exact q
  have startM : ∀ T o, hLay T → T.2.1 58 = S.2.1 58 → Rn hc_X10_dip 11 [some (.inr (some (10, 57))), none, none] [.inl (mIn (S.2.1 58 0) 2 3)] T o → Ev 156 [.inr (some (10, 57))] T o := by
    intro T o hT e q
    show Rn hc_X10_dip 0 [some (.inr (some (10, 57))), none, none] [] T _
    refine r_step rfl rfl ?_
    refine r_getr rfl (rv_57_0 hT) ?_
    refine r_step rfl rfl ?_
    refine r_iald rfl 0 rfl ⟨⟨by decide, by decide⟩, by decide⟩ ?_
    iterate 2 refine r_step rfl rfl ?_
    refine r_call rfl rfl (e_in _ _ _ _) ?_
    rw [e]
    exact q
  rcases mIn23 hm.2.1.1 with ⟨c, cc⟩ | ⟨c, c2, c3⟩
  · obtain ⟨u, k1⟩ := dl_c (S.2.1 58 0) (S.2.1 1) (S.2.1 7) hsC hrC hpC 21 S (by omega) hL rfl rfl
    obtain ⟨w', k2⟩ := dl_m (S.2.1 63) (S.2.1 58) h.2.1.1 hm.2.1 hm.2.2.1 21 0 (hRow S 56 u) (by omega) (hL.row _ _) (hRow_ne _ _ (by decide)) (hRow_ne _ _ (by decide))
    have e : best (fun k => dB (S.2.1 1) (nI k) 60 0 (S.2.1 7)) 21 = best (fun k => dB (S.2.1 63) (nI k) 60 0 (S.2.1 58)) 21 := by
      refine best_c (N := 21) (fun k hk => ?_) 21 (by omega)
      exact dB_c h.2.1.2 _ _ _ _ _ e16
    refine ⟨best (fun k => dB (S.2.1 63) (nI k) 60 0 (S.2.1 58)) 21, hRow S 56 u, hRow (hRow S 56 u) 59 w', startC _ ?_, startM _ _ (hL.row _ _) (hRow_ne _ _ (by decide)) ?_, ?_⟩
    · rw [← e]
      have k3 : Rn hc_X9_dip 24 [some (.inr (some (9, 0))), some (.inl (S.2.1 58 0)), none] [] S (some (best (fun k => dB (S.2.1 1) (nI k) 60 0 (S.2.1 7)) 21), hRow S 56 u) := by
        iterate 2 refine r_step rfl rfl ?_
        exact k1
      iterate 3 refine r_step rfl rfl ?_
      refine r_i_eq (fun _ => k3) (fun q => ?_)
      iterate 3 refine r_step rfl rfl ?_
      refine r_i_eq (fun _ => k3) (fun p => absurd cc (fun x => x.elim q p))
    · rw [c]
      iterate 5 refine r_step rfl rfl ?_
      exact k2
    · refine rel_scr h ((hFr_row _ _ _ (by unfold pScr; omega)).trans (hFr_row _ _ _ (by unfold pScr; omega))) ?_ ?_ ?_ <;> rw [hRow_ne _ _ (by decide), hRow_ne _ _ (by decide)]
  · refine ⟨-9, S, S, startC _ ?_, startM S _ hL rfl ?_, h⟩
    · iterate 3 refine r_step rfl rfl ?_
      refine r_i_eq (fun q => absurd q c2) (fun _ => ?_)
      iterate 3 refine r_step rfl rfl ?_
      refine r_i_eq (fun q => absurd q c3) (fun _ => ?_)
      refine r_step rfl rfl ?_
      exact r_reti rfl rfl rfl
    · rw [c]
      iterate 2 refine r_step rfl rfl ?_
      exact r_reti rfl rfl rfl
end
section
/-! The turns of a row of speeds. -/
def rL (f : Nat → Int32) : List Int32 → Prop
  | [] => True
  | x :: R => f R.length = x ∧ rL f R
theorem rL.up {f : Nat → Int32} {k : Nat} {v : Int32} : ∀ {R : List Int32}, rL f R → R.length ≤ k → rL (upd f k v) R
  | [], _, _ => trivial
  | x :: R, h, hk => by
    have hk2 : R.length + 1 ≤ k := hk
    exact ⟨by rw [pk_un (by omega)]; exact h.1, rL.up h.2 (by omega)⟩
theorem rL.push {f : Nat → Int32} {v : Int32} {R : List Int32} (h : rL f R) : rL (upd f R.length v) (v :: R) := ⟨pk_us .., h.up (Nat.le_refl _)⟩
def inn (u : Nat → Int32) : Nat → List Int32
  | 0 => []
  | 1 => [u 0]
  | i + 2 => if (u i < u (i + 1)) ↔ (u (i + 1) < u (i + 2)) then inn u (i + 1) else u (i + 1) :: inn u (i + 1)
theorem inn_s (u : Nat → Int32) (i : Nat) : inn u (i + 2) = if (u i < u (i + 1)) ↔ (u (i + 1) < u (i + 2)) then inn u (i + 1) else u (i + 1) :: inn u (i + 1) := rfl
def tn (u : Nat → Int32) : Nat → List Int32
  | 0 => []
  | n + 1 => u n :: inn u n
theorem inn_hd (u : Nat → Int32) : ∀ i, ∃ p Q, inn u (i + 1) = p :: Q ∧ (p < u (i + 1) ↔ u i < u (i + 1))
  | 0 => ⟨u 0, [], rfl, Iff.rfl⟩
  | i + 1 => by
    rw [inn_s]
    by_cases c : (u i < u (i + 1)) ↔ (u (i + 1) < u (i + 2))
    · obtain ⟨p, Q, e, k⟩ := inn_hd u i
      rw [if_pos c]
      refine ⟨p, Q, e, ?_⟩
      show p < u (i + 2) ↔ u (i + 1) < u (i + 2)
      simp only [i_lt] at *
      omega
    · rw [if_neg c]
      exact ⟨_, _, rfl, Iff.rfl⟩
theorem inn_c {u v : Nat → Int32} : ∀ i, (∀ j, j ≤ i → u j = v j) → inn u i = inn v i
  | 0, _ => rfl
  | 1, h => by show [u 0] = [v 0]; rw [h 0 (by omega)]
  | i + 2, h => by rw [inn_s, inn_s, inn_c (i + 1) (fun j hj => h j (by omega)), h i (by omega), h (i + 1) (by omega), h (i + 2) (by omega)]
theorem inn_len (u : Nat → Int32) : ∀ i, (inn u i).length ≤ i
  | 0 => Nat.le_refl _
  | 1 => Nat.le_refl _
  | i + 2 => by
    have k := inn_len u (i + 1)
    rw [inn_s]
    by_cases c : (u i < u (i + 1)) ↔ (u (i + 1) < u (i + 2))
    · rw [if_pos c]; omega
    · rw [if_neg c]; show (inn u (i + 1)).length + 1 ≤ _; omega
theorem tn_len (u : Nat → Int32) : ∀ n, (tn u n).length ≤ n
  | 0 => Nat.le_refl _
  | n + 1 => by have := inn_len u n; show (inn u n).length + 1 ≤ _; omega
def uS (x : Int32) (u : Nat → Int32) (n : Nat) : (Nat → Int32) × Nat := if ¬ n = 0 ∧ u (n - 1) = x then (u, n) else (upd u n x, n + 1)
theorem sub_lit {a b : Nat} {x : Int32} (hx : x = nI b) (h : a + b < 2147483648) : nI (a + b) - x = nI a := by
  rw [hx, i_eq, i_sub (by rw [ti h, ti (by omega)]; omega) (by rw [ti h, ti (by omega)]; omega), ti h, ti (by omega), ti (by omega)]
  omega
theorem lt_lit1 {n : Nat} (h0 : 1 < n) (h : n < 2147483648) : ¬ nI n ≤ 1 := by rw [i_le, ti h, i_one]; omega
def tOk (S : hS) (u : Nat → Int32) (n : Nat) : Prop := rL (S.2.1 52) (tn u n) ∧ S.2.1 51 1 = nI (tn u n).length
theorem ft_push (x : Int32) (l2 l3 : Option hV) (S : hS) (TL : List Int32) (hL : hLay S) (hc : S.2.1 51 1 = nI TL.length) (hl : TL.length < 40) : Rn hc_X2_findTurn 101 [some (.inr (some (2, 51))), some (.inl x), l2, l3] [] S (none, hPut (hPut S 52 TL.length x) 51 1 (nI (TL.length + 1))) := by
  iterate 4 refine r_step rfl rfl ?_
  rw [hc]
  refine r_i_ge (fun q => absurd q (lt_lit (N := 40) rfl (by decide) hl)) (fun _ => ?_)
  refine r_step rfl rfl ?_
  refine r_getr rfl (rv_51_0 hL) ?_
  iterate 3 refine r_step rfl rfl ?_
  refine r_iast0 rfl TL.length (by rw [hc]; exact ti (by omega)) ⟨⟨by decide, by decide⟩, hl⟩ ?_
  iterate 6 refine r_step rfl rfl ?_
  rw [hPut_ne (show 51 ≠ 52 by decide), hc, nI_s1]
  exact r_retn rfl rfl
set_option maxHeartbeats 4000000 in
set_option maxRecDepth 100000 in
theorem e_findTurn (x : Int32) (u : Nat → Int32) (n : Nat) (S : hS) (hL : hLay S) (hn : n < 40) (h : tOk S u n) : ∃ S', Ev 28 [.inr (some (2, 51)), .inl x] S (none, S') ∧ hFr S S' (fun p => p = 51 ∨ p = 52) ∧ (∀ j, j ≠ 1 → S'.2.1 51 j = S.2.1 51 j) ∧ tOk S' (uS x u n).1 (uS x u n).2 := by
  obtain ⟨hr1, hc⟩ := h
  have psh : ∀ (TL : List Int32) (v : Nat → Int32) (m : Nat), rL (S.2.1 52) TL → tn v m = x :: TL → hFr S (hPut (hPut S 52 TL.length x) 51 1 (nI (TL.length + 1))) (fun p => p = 51 ∨ p = 52) ∧ (∀ j, j ≠ 1 → (hPut (hPut S 52 TL.length x) 51 1 (nI (TL.length + 1))).2.1 51 j = S.2.1 51 j) ∧ tOk (hPut (hPut S 52 TL.length x) 51 1 (nI (TL.length + 1))) v m := by
    intro TL v m h52 e
    refine ⟨(hFr_put _ _ _ _ (Or.inr rfl)).trans (hFr_put _ _ _ _ (Or.inl rfl)), fun j hj => ?_, ?_, ?_⟩
    · rw [hPut_at, pk_un hj, hPut_ne (by decide)]
    · rw [hPut_ne (by decide), hPut_at, e]; exact h52.push
    · rw [hPut_at, pk_us, e]; rfl
  match n, hn, hr1, hc with
  | 0, _, _, hc =>
    have e : tn (upd u 0 x) 1 = x :: [] := by show [upd u 0 x 0] = _; rw [pk_us]
    have e2 : uS x u 0 = (upd u 0 x, 1) := if_neg (fun q => q.1 rfl)
    refine ⟨_, ?_, psh [] (upd u 0 x) 1 trivial e |>.1, (psh [] (upd u 0 x) 1 trivial e).2.1, by rw [e2]; exact (psh [] (upd u 0 x) 1 trivial e).2.2⟩
    show Rn hc_X2_findTurn 0 [some (.inr (some (2, 51))), some (.inl x), none, none] [] S _
    have hc0 : S.2.1 51 1 = 0 := hc
    iterate 3 refine r_step rfl rfl ?_
    rw [hc0]
    refine r_i_le (fun _ => ?_) (fun q => absurd (show (0 : Int32) ≤ 0 by decide) q)
    iterate 4 refine r_step rfl rfl ?_
    rw [hc0]
    refine r_i_le (fun _ => ?_) (fun q => absurd (show (0 : Int32) ≤ 1 by decide) q)
    exact ft_push x _ _ S [] hL hc (by decide)
  | m + 1, hn, hr1, hc =>
    obtain ⟨ha, hR⟩ := hr1
    have hc1 : S.2.1 51 1 = nI ((inn u m).length + 1) := hc
    have hlen := inn_len u m
    have start : ∀ o, Rn hc_X2_findTurn 19 [some (.inr (some (2, 51))), some (.inl x), none, none] [.inl x, .inl (u m)] S o → Ev 28 [.inr (some (2, 51)), .inl x] S o := by
      intro o q
      show Rn hc_X2_findTurn 0 [some (.inr (some (2, 51))), some (.inl x), none, none] [] S _
      iterate 3 refine r_step rfl rfl ?_
      refine r_i_le (fun p => absurd p (by rw [hc1]; exact nI_nle (by omega) (by omega))) (fun _ => ?_)
      refine r_step rfl rfl ?_
      refine r_getr rfl (rv_51_0 hL) ?_
      iterate 4 refine r_step rfl rfl ?_
      refine r_iald rfl (inn u m).length (by rw [hc1, nI_pred]; exact ti (by omega)) ⟨⟨by decide, by decide⟩, by show (inn u m).length < 40; omega⟩ ?_
      rw [ha]
      refine r_step rfl rfl ?_
      exact q
    by_cases cx : u m = x
    · have e2 : uS x u (m + 1) = (u, m + 1) := if_pos ⟨by omega, cx⟩
      refine ⟨S, start _ ?_, hFr.rf _ _, fun _ _ => rfl, by rw [e2]; exact ⟨⟨ha, hR⟩, hc⟩⟩
      refine r_step rfl rfl ?_
      refine r_i_ne (fun q => absurd cx q) (fun _ => ?_)
      exact r_retn rfl rfl
    have e2 : uS x u (m + 1) = (upd u (m + 1) x, m + 2) := if_neg (fun q => cx q.2)
    rw [e2]
    match m, hn, ha, hR, hc, hc1, hlen, start, cx with
    | 0, hn, ha, hR, hc, hc1, hlen, start, cx =>
      have e : tn (upd u 1 x) 2 = x :: tn u 1 := by show [upd u 1 x 1, upd u 1 x 0] = _; rw [pk_us, pk_un (by decide)]; rfl
      have hc2 : S.2.1 51 1 = 1 := hc
      refine ⟨_, start _ ?_, psh (tn u 1) (upd u 1 x) 2 ⟨ha, hR⟩ e⟩
      refine r_step rfl rfl ?_
      refine r_i_ne (fun _ => ?_) (fun q => absurd q cx)
      iterate 4 refine r_step rfl rfl ?_
      rw [hc2]
      refine r_i_le (fun _ => ?_) (fun q => absurd (show (1 : Int32) ≤ 1 by decide) q)
      exact ft_push x _ _ S (tn u 1) hL hc (show (1 : Nat) < 40 by decide)
    | j + 1, hn, ha, hR, hc, hc1, hlen, start, cx =>
      obtain ⟨p, Q, eI, kd⟩ := inn_hd u j
      have ec : inn (upd u (j + 2) x) (j + 1) = inn u (j + 1) := inn_c _ (fun i hi => pk_un (by omega))
      have et : tn (upd u (j + 2) x) (j + 3) = if (u j < u (j + 1)) ↔ (u (j + 1) < x) then x :: inn u (j + 1) else x :: u (j + 1) :: inn u (j + 1) := by
        show upd u (j + 2) x (j + 2) :: inn (upd u (j + 2) x) (j + 2) = _
        rw [inn_s, ec, pk_us, pk_un (show j ≠ j + 2 by omega), pk_un (show j + 1 ≠ j + 2 by omega)]
        by_cases c : (u j < u (j + 1)) ↔ (u (j + 1) < x)
        · rw [if_pos c, if_pos c]
        · rw [if_neg c, if_neg c]
      rw [eI] at hR ha hc1 hlen
      have hp : S.2.1 52 Q.length = p := hR.1
      have ha2 : S.2.1 52 (Q.length + 1) = u (j + 1) := ha
      have hc2 : S.2.1 51 1 = nI (Q.length + 2) := hc1
      have hlen2 : Q.length + 1 ≤ j + 1 := hlen
      have w1 : ∀ o, (∀ w : Int32, (w = 1 ∧ p < u (j + 1) ∨ w = 0 ∧ ¬ p < u (j + 1)) → Rn hc_X2_findTurn 61 [some (.inr (some (2, 51))), some (.inl x), none, none] [.inl w] S o) → Ev 28 [.inr (some (2, 51)), .inl x] S o := by
        intro o q
        refine start _ ?_
        refine r_step rfl rfl ?_
        refine r_i_ne (fun _ => ?_) (fun q => absurd q cx)
        iterate 4 refine r_step rfl rfl ?_
        refine r_i_le (fun p => absurd p (by rw [hc2]; exact lt_lit1 (by omega) (by omega))) (fun _ => ?_)
        refine r_step rfl rfl ?_
        refine r_getr rfl (rv_51_0 hL) ?_
        iterate 4 refine r_step rfl rfl ?_
        refine r_iald rfl (Q.length + 1) (by rw [hc2, nI_pred]; exact ti (by omega)) ⟨⟨by decide, by decide⟩, by show Q.length + 1 < 40; omega⟩ ?_
        rw [ha2]
        refine r_step rfl rfl ?_
        refine r_getr rfl (rv_51_0 hL) ?_
        iterate 4 refine r_step rfl rfl ?_
        refine r_iald rfl Q.length (by rw [hc2, sub_lit (x := 2) (b := 2) rfl (by omega)]; exact ti (by omega)) ⟨⟨by decide, by decide⟩, by show Q.length < 40; omega⟩ ?_
        rw [hp]
        refine r_step rfl rfl ?_
        refine r_i_le (fun c => ?_) (fun c => ?_)
        · refine r_step rfl rfl ?_
          exact q 0 (Or.inr ⟨rfl, by rw [i_lt]; rw [i_le] at c; omega⟩)
        · iterate 2 refine r_step rfl rfl ?_
          exact q 1 (Or.inl ⟨rfl, by rw [i_lt]; rw [i_le] at c; omega⟩)
      have w2 : ∀ o, (∀ w v : Int32, (w = 1 ∧ p < u (j + 1) ∨ w = 0 ∧ ¬ p < u (j + 1)) → (v = 1 ∧ u (j + 1) < x ∨ v = 0 ∧ ¬ u (j + 1) < x) → Rn hc_X2_findTurn 85 [some (.inr (some (2, 51))), some (.inl x), some (.inl w), some (.inl v)] [.inl v, .inl w] S o) → Ev 28 [.inr (some (2, 51)), .inl x] S o := by
        intro o q
        refine w1 _ (fun w hw => ?_)
        iterate 3 refine r_step rfl rfl ?_
        refine r_getr rfl (rv_51_0 hL) ?_
        iterate 4 refine r_step rfl rfl ?_
        refine r_iald rfl (Q.length + 1) (by rw [hc2, nI_pred]; exact ti (by omega)) ⟨⟨by decide, by decide⟩, by show Q.length + 1 < 40; omega⟩ ?_
        rw [ha2]
        refine r_step rfl rfl ?_
        refine r_i_le (fun c => ?_) (fun c => ?_)
        · iterate 4 refine r_step rfl rfl ?_
          exact q w 0 hw (Or.inr ⟨rfl, by rw [i_lt]; rw [i_le] at c; omega⟩)
        · iterate 5 refine r_step rfl rfl ?_
          exact q w 1 hw (Or.inl ⟨rfl, by rw [i_lt]; rw [i_le] at c; omega⟩)
      by_cases c : (u j < u (j + 1)) ↔ (u (j + 1) < x)
      · rw [if_pos c, eI] at et
        refine ⟨hPut S 52 (Q.length + 1) x, w2 _ (fun w v hw hv => ?_), hFr_put _ _ _ _ (Or.inr rfl), fun i hi => by rw [hPut_ne (by decide)], ?_, ?_⟩
        · refine r_step rfl rfl ?_
          refine r_i_ne (fun q => absurd q (fun q => q ?_)) (fun _ => ?_)
          · rcases hw with ⟨a1, a2⟩ | ⟨a1, a2⟩ <;> rcases hv with ⟨b1, b2⟩ | ⟨b1, b2⟩ <;> subst a1 <;> subst b1
            · rfl
            · exact absurd (c.1 (kd.1 a2)) b2
            · exact absurd (kd.2 (c.2 b2)) a2
            · rfl
          · refine r_step rfl rfl ?_
            refine r_getr rfl (rv_51_0 hL) ?_
            iterate 5 refine r_step rfl rfl ?_
            refine r_iast0 rfl (Q.length + 1) (by rw [hc2, nI_pred]; exact ti (by omega)) ⟨⟨by decide, by decide⟩, by show Q.length + 1 < 40; omega⟩ ?_
            exact r_retn rfl rfl
        · rw [et, hPut_at]
          exact ⟨pk_us .., rL.up hR (Nat.le_refl _)⟩
        · rw [et, hPut_ne (by decide), hc2]; rfl
      · rw [if_neg c] at et
        refine ⟨_, w2 _ (fun w v hw hv => ?_), psh (u (j + 1) :: inn u (j + 1)) (upd u (j + 2) x) (j + 3) (by rw [eI]; exact ⟨ha2, hR⟩) et⟩
        refine r_step rfl rfl ?_
        refine r_i_ne (fun _ => ?_) (fun q => ?_)
        · exact ft_push x _ _ S (u (j + 1) :: inn u (j + 1)) hL hc (by rw [eI]; show Q.length + 1 + 1 < 40; omega)
        · exfalso
          rcases hw with ⟨a1, a2⟩ | ⟨a1, a2⟩ <;> rcases hv with ⟨b1, b2⟩ | ⟨b1, b2⟩ <;> subst a1 <;> subst b1
          · exact c ⟨fun _ => b2, fun _ => kd.1 a2⟩
          · exact absurd q (by decide)
          · exact absurd q (by decide)
          · exact c ⟨fun y => absurd (kd.2 y) a2, fun y => absurd y b2⟩
end
section
/-! The turns, on both sides. -/
def uP (x : Nat → Int32) : Nat → (Nat → Int32) → Nat → (Nat → Int32) × Nat
  | 0, u, n => (u, n)
  | k + 1, u, n => uP x k (uS (x k) u n).1 (uS (x k) u n).2
theorem uP_s (x : Nat → Int32) (k : Nat) (u : Nat → Int32) (n : Nat) : uP x (k + 1) u n = uP x k (uS (x k) u n).1 (uS (x k) u n).2 := rfl
theorem uS_n (x : Int32) (u : Nat → Int32) (n : Nat) : (uS x u n).2 ≤ n + 1 := by
  unfold uS
  by_cases c : ¬ n = 0 ∧ u (n - 1) = x
  · rw [if_pos c]; show n ≤ n + 1; omega
  · rw [if_neg c]; exact Nat.le_refl _
theorem uP_n (x : Nat → Int32) : ∀ k u n, (uP x k u n).2 ≤ n + k
  | 0, u, n => Nat.le_refl _
  | k + 1, u, n => by
    have := uP_n x k (uS (x k) u n).1 (uS (x k) u n).2
    have := uS_n (x k) u n
    rw [uP_s]
    omega
/-- the speeds of the trace -/
def spd (T : hS) (z : Nat) (x : Nat → Int32) : Prop := ∃ n, n < 40 ∧ T.2.1 8 1 = nI n ∧ T.2.1 8 2 = nI z ∧ ∀ i, i < z → T.2.1 9 ((n + 39 - i) % 40) = x i
theorem pour1 (z : Nat) (hz : z ≤ 40) (x : Nat → Int32) : ∀ (k : Nat) (u : Nat → Int32) (n : Nat) (T : hS), k + n ≤ 40 → k ≤ z → hLay T → spd T z x → tOk T u n → ∃ T', hFr T T' (fun p => p = 51 ∨ p = 52) ∧ (∀ j, j ≠ 1 → T'.2.1 51 j = T.2.1 51 j) ∧ tOk T' (uP x k u n).1 (uP x k u n).2 ∧ (∀ o, Rn hc_X2_pour 46 [some (.inr (some (2, 51))), some (.inr (some (7, 8))), some (.inl (nI 0 + -1))] [] T' o → Rn hc_X2_pour 27 [some (.inr (some (2, 51))), some (.inr (some (7, 8))), some (.inl (nI k + -1))] [] T o) := by
  intro k
  induction k with
  | zero =>
    intro u n T hk hkz hL hx ht
    refine ⟨T, hFr.rf _ _, fun _ _ => rfl, ht, fun o q => ?_⟩
    iterate 2 refine r_step rfl rfl ?_
    refine r_i_lt (fun _ => q) (fun q => absurd (show nI 0 + -1 < 0 by decide) q)
  | succ k ih =>
    intro u n T hk hkz hL hx ht
    obtain ⟨nn, hn, x1, x2, x3⟩ := hx
    have sp := e_speedAgo 8 9 (nI k) nn z T (rv_8_0 hL) x1 hn x2 hz
    rw [if_neg (nI_pos (by omega)), if_pos (nI_lt (by omega) (by omega)), nI_clamp (by omega), x3 k (by omega)] at sp
    obtain ⟨T1, a1, a2, a3, a4⟩ := e_findTurn (x k) u n T hL (by omega) ht
    have f1 : ∀ p, ¬ (p = 51 ∨ p = 52) → T1.2.1 p = T.2.1 p := a2.2.2
    obtain ⟨T2, b1, b2, b3, b4⟩ := ih (uS (x k) u n).1 (uS (x k) u n).2 T1 (by have := uS_n (x k) u n; omega) (by omega) (hL.fr a2) ⟨nn, hn, by rw [f1 8 (by decide)]; exact x1, by rw [f1 8 (by decide)]; exact x2, by rw [f1 9 (by decide)]; exact x3⟩ a4
    refine ⟨T2, a2.trans b1, fun j hj => (b2 j hj).trans (a3 j hj), b3, fun o q => ?_⟩
    rw [nI_m1]
    iterate 2 refine r_step rfl rfl ?_
    refine r_i_lt (fun q => absurd q (nI_pos (by omega))) (fun _ => ?_)
    iterate 3 refine r_step rfl rfl ?_
    refine r_call rfl rfl sp ?_
    refine r_callv rfl rfl a1 ?_
    iterate 2 refine r_step rfl rfl ?_
    exact b4 o q
theorem uo_l (x : Nat → Int32) : ∀ (k n : Nat) (T : hS) (l3 : Option hV), k + n ≤ 40 → hLay T → (∀ i, i < k → T.2.1 58 (19 + i) = x i) → Rn hc_X10_unlikeOnes 12 [some (.inr (some (10, 57))), some (.inl (nI n)), some (.inl (nI k + -1)), l3] [] T (some (nI (uP x k (T.2.1 66) n).2), hRow T 66 (uP x k (T.2.1 66) n).1) := by
  intro k
  induction k with
  | zero =>
    intro n T l3 hk hL hx
    iterate 2 refine r_step rfl rfl ?_
    refine r_i_lt (fun _ => ?_) (fun q => absurd (show nI 0 + -1 < 0 by decide) q)
    refine r_step rfl rfl ?_
    exact r_reti rfl rfl (hRow_self T 66).symm
  | succ k ih =>
    intro n T l3 hk hL hx
    rw [nI_m1]
    iterate 2 refine r_step rfl rfl ?_
    refine r_i_lt (fun q => absurd q (nI_pos (by omega))) (fun _ => ?_)
    refine r_step rfl rfl ?_
    refine r_getr rfl (rv_57_0 hL) ?_
    iterate 3 refine r_step rfl rfl ?_
    refine r_iald rfl (19 + k) (by rw [show (19 : Int32) + nI k = nI (19 + k) from nI_add 19 k]; exact ti (by omega)) ⟨⟨by decide, by decide⟩, by show 19 + k < 59; omega⟩ ?_
    rw [hx k (by omega)]
    have push : ¬ (¬ n = 0 ∧ T.2.1 66 (n - 1) = x k) → Rn hc_X10_unlikeOnes 42 [some (.inr (some (10, 57))), some (.inl (nI n)), some (.inl (nI k)), some (.inl (x k))] [] T (some (nI (uP x (k + 1) (T.2.1 66) n).2), hRow T 66 (uP x (k + 1) (T.2.1 66) n).1) := by
      intro c
      have e : uS (x k) (T.2.1 66) n = (upd (T.2.1 66) n (x k), n + 1) := if_neg c
      have k1 := ih (n + 1) (hPut T 66 n (x k)) (some (.inl (x k))) (by omega) (hL.put _ _ _) (fun i hi => by rw [hPut_ne (by decide)]; exact hx i (by omega))
      rw [hPut_at, hPut_eq, hRow_row] at k1
      rw [uP_s, e]
      refine r_step rfl rfl ?_
      refine r_getr rfl (rv_57_16 hL) ?_
      iterate 2 refine r_step rfl rfl ?_
      refine r_iast0 rfl n (ti (by omega)) ⟨⟨by decide, by decide⟩, by show n < 40; omega⟩ ?_
      iterate 3 refine r_step rfl rfl ?_
      show Rn hc_X10_unlikeOnes 12 [some (.inr (some (10, 57))), some (.inl (nI n + 1)), some (.inl (nI k + -1)), some (.inl (x k))] [] (hPut T 66 n (x k)) _
      rw [nI_s1, hPut_eq]
      exact k1
    iterate 3 refine r_step rfl rfl ?_
    refine r_i_eq (fun q => push (fun w => w.1 ((nI_eq (by omega) (by decide)).1 (show nI n = nI 0 from q)))) (fun q => ?_)
    have n0 : ¬ n = 0 := fun w => q (by rw [w]; rfl)
    obtain ⟨m, rfl⟩ : ∃ m, n = m + 1 := ⟨n - 1, by omega⟩
    refine r_step rfl rfl ?_
    refine r_getr rfl (rv_57_16 hL) ?_
    iterate 3 refine r_step rfl rfl ?_
    refine r_iald rfl m (by rw [nI_pred]; exact ti (by omega)) ⟨⟨by decide, by decide⟩, by show m < 40; omega⟩ ?_
    iterate 2 refine r_step rfl rfl ?_
    refine r_i_eq (fun c => ?_) (fun c => push (fun w => c w.2))
    have e : uS (x k) (T.2.1 66) (m + 1) = (T.2.1 66, m + 1) := if_pos ⟨n0, c⟩
    rw [uP_s, e]
    iterate 2 refine r_step rfl rfl ?_
    exact ih (m + 1) T _ (by omega) hL (fun i hi => hx i (by omega))
theorem e_unlikeOnes (x : Nat → Int32) (z : Nat) (hz : z ≤ 40) (S : hS) (hL : hLay S) (h18 : S.2.1 58 18 = nI z) (hx : ∀ i, i < z → S.2.1 58 (19 + i) = x i) : Ev 24 [.inr (some (10, 57))] S (some (nI (uP x z (S.2.1 66) 0).2), hRow S 66 (uP x z (S.2.1 66) 0).1) := by
  show Rn hc_X10_unlikeOnes 0 [some (.inr (some (10, 57))), none, none, none] [] S _
  iterate 3 refine r_step rfl rfl ?_
  refine r_getr rfl (rv_57_0 hL) ?_
  refine r_step rfl rfl ?_
  refine r_iald rfl 18 rfl ⟨⟨by decide, by decide⟩, by decide⟩ ?_
  rw [h18]
  iterate 3 refine r_step rfl rfl ?_
  have e : nI z - 1 = nI z + -1 := Int32.sub_eq_add_neg ..
  rw [e]
  exact uo_l x z 0 S none (by omega) hL hx
def mOk (T : hS) (TL : List Int32) : Prop := rL (T.2.1 67) TL ∧ T.2.1 57 18 = nI TL.length
theorem ftm_push (l1 : Option hV) (i : Nat) (l3 : Option hV) (T : hS) (TL : List Int32) (o : Option Int32 × hS) (hL : hLay T) (hc : T.2.1 57 18 = nI TL.length) (hl : TL.length < 40) (hi : i < 40) (k : Rn hc_X10_findsTurns 12 [some (.inr (some (10, 57))), l1, some (.inl (nI (i + 1))), some (.inl 1)] [] (hPut (hPut T 67 TL.length (T.2.1 66 i)) 57 18 (nI (TL.length + 1))) o) : Rn hc_X10_findsTurns 75 [some (.inr (some (10, 57))), l1, some (.inl (nI i)), l3] [] T o := by
  iterate 6 refine r_step rfl rfl ?_
  refine r_getr rfl (rv_57_17 hL) ?_
  iterate 3 refine r_step rfl rfl ?_
  refine r_getr rfl (rv_57_16 hL) ?_
  refine r_step rfl rfl ?_
  refine r_iald rfl i (ti (by omega)) ⟨⟨by decide, by decide⟩, hi⟩ ?_
  refine r_iast0 rfl TL.length (by rw [hc]; exact ti (by omega)) ⟨⟨by decide, by decide⟩, hl⟩ ?_
  iterate 6 refine r_step rfl rfl ?_
  rw [hPut_ne (show 57 ≠ 67 by decide), hc, nI_s1]
  iterate 2 refine r_step rfl rfl ?_
  show Rn hc_X10_findsTurns 12 [some (.inr (some (10, 57))), l1, some (.inl (nI i + 1)), some (.inl 1)] [] _ _
  rw [nI_s1]
  exact k
end
section
/-! The model's turns. -/
theorem mOk.push {T : hS} {TL : List Int32} (h : mOk T TL) (v : Int32) : mOk (hPut (hPut T 67 TL.length v) 57 18 (nI (TL.length + 1))) (v :: TL) := by
  refine ⟨?_, ?_⟩
  · rw [hPut_ne (by decide), hPut_at]; exact h.1.push
  · rw [hPut_at, pk_us]; rfl
theorem ps_fr {T : hS} (k : Nat) (v y : Int32) : hFr T (hPut (hPut T 67 k v) 57 18 y) (fun p => p = 57 ∨ p = 67) ∧ (∀ j, j ≠ 18 → (hPut (hPut T 67 k v) 57 18 y).2.1 57 j = T.2.1 57 j) := by
  refine ⟨(hFr_put _ _ _ _ (Or.inr rfl)).trans (hFr_put _ _ _ _ (Or.inl rfl)), fun j hj => ?_⟩
  rw [hPut_at, pk_un hj, hPut_ne (by decide)]
/-- is the place i a turn: the words of the loop before its choice -/
theorem ftm_test (u : Nat → Int32) (n j : Nat) (l3 : Option hV) (T : hS) (o : Option Int32 × hS) (hL : hLay T) (hu : T.2.1 66 = u) (hj : j + 2 < n) (hn : n ≤ 40) (kt : ¬ ((u j < u (j + 1)) ↔ (u (j + 1) < u (j + 2))) → Rn hc_X10_findsTurns 75 [some (.inr (some (10, 57))), some (.inl (nI n)), some (.inl (nI (j + 1))), l3] [] T o) (kf : ((u j < u (j + 1)) ↔ (u (j + 1) < u (j + 2))) → Rn hc_X10_findsTurns 79 [some (.inr (some (10, 57))), some (.inl (nI n)), some (.inl (nI (j + 1))), l3] [] T o) : Rn hc_X10_findsTurns 12 [some (.inr (some (10, 57))), some (.inl (nI n)), some (.inl (nI (j + 1))), l3] [] T o := by
  iterate 3 refine r_step rfl rfl ?_
  refine r_i_ge (fun q => absurd q (nI_ge (by omega) (by omega))) (fun _ => ?_)
  iterate 2 refine r_step rfl rfl ?_
  refine r_i_eq (fun q => absurd ((nI_eq (by omega) (by decide)).1 (show nI (j + 1) = nI 0 from q)) (by omega)) (fun _ => ?_)
  iterate 5 refine r_step rfl rfl ?_
  refine r_i_eq (fun q => absurd (show nI (j + 1) = nI (n - 1) by rw [q]; exact (show n = n - 1 + 1 by omega) ▸ nI_pred (n - 1)) (fun w => absurd ((nI_eq (by omega) (by omega)).1 w) (by omega))) (fun _ => ?_)
  refine r_step rfl rfl ?_
  refine r_getr rfl (rv_57_16 hL) ?_
  refine r_step rfl rfl ?_
  refine r_iald rfl (j + 1) (ti (by omega)) ⟨⟨by decide, by decide⟩, by show j + 1 < 40; omega⟩ ?_
  refine r_step rfl rfl ?_
  refine r_getr rfl (rv_57_16 hL) ?_
  iterate 3 refine r_step rfl rfl ?_
  refine r_iald rfl j (by rw [nI_pred]; exact ti (by omega)) ⟨⟨by decide, by decide⟩, by show j < 40; omega⟩ ?_
  rw [hu]
  have second : ∀ w : Int32, (w = 1 ∧ u j < u (j + 1) ∨ w = 0 ∧ ¬ u j < u (j + 1)) → Rn hc_X10_findsTurns 50 [some (.inr (some (10, 57))), some (.inl (nI n)), some (.inl (nI (j + 1))), l3] [.inl w] T o := by
    intro w hw
    refine r_step rfl rfl ?_
    refine r_getr rfl (rv_57_16 hL) ?_
    iterate 3 refine r_step rfl rfl ?_
    refine r_iald rfl (j + 2) (by rw [nI_s1]; exact ti (by omega)) ⟨⟨by decide, by decide⟩, by show j + 2 < 40; omega⟩ ?_
    refine r_step rfl rfl ?_
    refine r_getr rfl (rv_57_16 hL) ?_
    refine r_step rfl rfl ?_
    refine r_iald rfl (j + 1) (ti (by omega)) ⟨⟨by decide, by decide⟩, by show j + 1 < 40; omega⟩ ?_
    rw [hu]
    have third : ∀ v : Int32, (v = 1 ∧ u (j + 1) < u (j + 2) ∨ v = 0 ∧ ¬ u (j + 1) < u (j + 2)) → Rn hc_X10_findsTurns 72 [some (.inr (some (10, 57))), some (.inl (nI n)), some (.inl (nI (j + 1))), l3] [.inl v, .inl w] T o := by
      intro v hv
      refine r_step rfl rfl ?_
      refine r_i_eq (fun q => kf ?_) (fun q => kt ?_)
      · rcases hw with ⟨a1, a2⟩ | ⟨a1, a2⟩ <;> rcases hv with ⟨b1, b2⟩ | ⟨b1, b2⟩ <;> subst a1 <;> subst b1
        · exact ⟨fun _ => b2, fun _ => a2⟩
        · exact absurd q (by decide)
        · exact absurd q (by decide)
        · exact ⟨fun y => absurd y a2, fun y => absurd y b2⟩
      · rcases hw with ⟨a1, a2⟩ | ⟨a1, a2⟩ <;> rcases hv with ⟨b1, b2⟩ | ⟨b1, b2⟩ <;> subst a1 <;> subst b1
        · exact absurd rfl q
        · exact fun c => b2 (c.1 a2)
        · exact fun c => a2 (c.2 b2)
        · exact absurd rfl q
    refine r_step rfl rfl ?_
    refine r_i_le (fun c => ?_) (fun c => ?_)
    · refine r_step rfl rfl ?_
      exact third 0 (Or.inr ⟨rfl, by rw [i_lt]; rw [i_le] at c; omega⟩)
    · iterate 2 refine r_step rfl rfl ?_
      exact third 1 (Or.inl ⟨rfl, by rw [i_lt]; rw [i_le] at c; omega⟩)
  refine r_step rfl rfl ?_
  refine r_i_le (fun c => ?_) (fun c => ?_)
  · refine r_step rfl rfl ?_
    exact second 0 (Or.inr ⟨rfl, by rw [i_lt]; rw [i_le] at c; omega⟩)
  · iterate 2 refine r_step rfl rfl ?_
    exact second 1 (Or.inl ⟨rfl, by rw [i_lt]; rw [i_le] at c; omega⟩)
theorem ftm_l (u : Nat → Int32) (n : Nat) (hn : n ≤ 40) : ∀ (d i : Nat) (T : hS) (l3 : Option hV), i + (d + 1) = n → hLay T → T.2.1 66 = u → mOk T (inn u i) → ∃ T', Rn hc_X10_findsTurns 12 [some (.inr (some (10, 57))), some (.inl (nI n)), some (.inl (nI i)), l3] [] T (none, T') ∧ hFr T T' (fun p => p = 57 ∨ p = 67) ∧ (∀ j, j ≠ 18 → T'.2.1 57 j = T.2.1 57 j) ∧ mOk T' (tn u n) := by
  intro d
  induction d with
  | zero =>
    intro i T l3 hi hL hu ht
    subst hi
    have hlen := inn_len u i
    refine ⟨hPut (hPut T 67 (inn u i).length (T.2.1 66 i)) 57 18 (nI ((inn u i).length + 1)), ?_, (ps_fr _ _ _).1, (ps_fr _ _ _).2, ?_⟩
    · have p := ftm_push (some (.inl (nI (i + 1)))) i l3 T (inn u i) (none, hPut (hPut T 67 (inn u i).length (T.2.1 66 i)) 57 18 (nI ((inn u i).length + 1))) hL ht.2 (by omega) (by omega) (by
        iterate 3 refine r_step rfl rfl ?_
        refine r_i_ge (fun _ => r_retn rfl rfl) (fun q => absurd (nI_le (Nat.le_refl (i + 1)) (by omega)) q))
      iterate 3 refine r_step rfl rfl ?_
      refine r_i_ge (fun q => absurd q (nI_ge (by omega) (by omega))) (fun _ => ?_)
      iterate 2 refine r_step rfl rfl ?_
      refine r_i_eq (fun _ => p) (fun _ => ?_)
      iterate 5 refine r_step rfl rfl ?_
      refine r_i_eq (fun _ => p) (fun q => absurd (nI_pred i).symm q)
    · show mOk _ (u i :: inn u i)
      rw [show u i = T.2.1 66 i by rw [hu]]
      exact ht.push _
  | succ d ih =>
    intro i T l3 hi hL hu ht
    have hlen := inn_len u i
    have hL2 : hLay (hPut (hPut T 67 (inn u i).length (T.2.1 66 i)) 57 18 (nI ((inn u i).length + 1))) := (hL.put _ _ _).put _ _ _
    have hu2 : (hPut (hPut T 67 (inn u i).length (T.2.1 66 i)) 57 18 (nI ((inn u i).length + 1))).2.1 66 = u := by rw [hPut_ne (by decide), hPut_ne (by decide)]; exact hu
    have pk := ht.push (T.2.1 66 i)
    have doPush : inn u (i + 1) = u i :: inn u i → ∃ T', Rn hc_X10_findsTurns 75 [some (.inr (some (10, 57))), some (.inl (nI n)), some (.inl (nI i)), l3] [] T (none, T') ∧ hFr T T' (fun p => p = 57 ∨ p = 67) ∧ (∀ j, j ≠ 18 → T'.2.1 57 j = T.2.1 57 j) ∧ mOk T' (tn u n) := by
      intro e
      obtain ⟨T', b1, b2, b3, b4⟩ := ih (i + 1) _ (some (.inl 1)) (by omega) hL2 hu2 (by rw [e, show u i = T.2.1 66 i by rw [hu]]; exact pk)
      exact ⟨T', ftm_push _ i l3 T (inn u i) _ hL ht.2 (by omega) (by omega) b1, (ps_fr _ _ _).1.trans b2, fun j hj => (b3 j hj).trans ((ps_fr _ _ _).2 j hj), b4⟩
    match i, hi, ht, hlen, doPush with
    | 0, hi, ht, hlen, doPush =>
      obtain ⟨T', b1, b2⟩ := doPush rfl
      refine ⟨T', ?_, b2⟩
      iterate 3 refine r_step rfl rfl ?_
      refine r_i_ge (fun q => absurd q (nI_ge (by omega) (by omega))) (fun _ => ?_)
      iterate 2 refine r_step rfl rfl ?_
      exact b1
    | j + 1, hi, ht, hlen, doPush =>
      by_cases c : (u j < u (j + 1)) ↔ (u (j + 1) < u (j + 2))
      · obtain ⟨T', b1, b2, b3, b4⟩ := ih (j + 2) T (some (.inl 0)) (by omega) hL hu (by rw [inn_s, if_pos c]; exact ht)
        refine ⟨T', ftm_test u n j l3 T _ hL hu (by omega) hn (fun q => absurd c q) (fun _ => ?_), b2, b3, b4⟩
        iterate 6 refine r_step rfl rfl ?_
        show Rn hc_X10_findsTurns 12 [some (.inr (some (10, 57))), some (.inl (nI n)), some (.inl (nI (j + 1) + 1)), some (.inl 0)] [] _ _
        rw [nI_s1]
        exact b1
      · obtain ⟨T', b1, b2⟩ := doPush (by rw [inn_s, if_neg c])
        exact ⟨T', ftm_test u n j l3 T _ hL hu (by omega) hn (fun _ => b1) (fun q => absurd q c), b2⟩
theorem e_findsTurns (x : Nat → Int32) (z : Nat) (hz : z ≤ 40) (S : hS) (hL : hLay S) (h18 : S.2.1 58 18 = nI z) (hx : ∀ i, i < z → S.2.1 58 (19 + i) = x i) : ∃ T', Ev 61 [.inr (some (10, 57))] S (none, T') ∧ hFr S T' (fun p => p = 57 ∨ p = 66 ∨ p = 67) ∧ (∀ j, j ≠ 18 → T'.2.1 57 j = S.2.1 57 j) ∧ mOk T' (tn (uP x z (S.2.1 66) 0).1 (uP x z (S.2.1 66) 0).2) := by
  have e1 := e_unlikeOnes x z hz S hL h18 hx
  have hn := uP_n x z (S.2.1 66) 0
  generalize hq : uP x z (S.2.1 66) 0 = q at *
  obtain ⟨u, n⟩ := q
  have start : ∀ o, Rn hc_X10_findsTurns 12 [some (.inr (some (10, 57))), some (.inl (nI n)), some (.inl (nI 0)), none] [] (hPut (hRow S 66 u) 57 18 0) o → Ev 61 [.inr (some (10, 57))] S o := by
    intro o k
    show Rn hc_X10_findsTurns 0 [some (.inr (some (10, 57))), none, none, none] [] S _
    refine r_step rfl rfl ?_
    refine r_call rfl rfl e1 ?_
    iterate 6 refine r_step rfl rfl ?_
    exact k
  have f0 : hFr S (hPut (hRow S 66 u) 57 18 0) (fun p => p = 57 ∨ p = 66 ∨ p = 67) := (hFr_row _ _ _ (Or.inr (Or.inl rfl))).trans (hFr_put _ _ _ _ (Or.inl rfl))
  have g0 : ∀ j, j ≠ 18 → (hPut (hRow S 66 u) 57 18 0).2.1 57 j = S.2.1 57 j := fun j hj => by rw [hPut_at, pk_un hj, hRow_ne _ _ (by decide)]
  have o0 : mOk (hPut (hRow S 66 u) 57 18 0) [] := ⟨trivial, by rw [hPut_at, pk_us]; rfl⟩
  match n, hn, hq, e1, start with
  | 0, hn, hq, e1, start =>
    refine ⟨_, start _ ?_, f0, g0, o0⟩
    iterate 3 refine r_step rfl rfl ?_
    exact r_retn rfl rfl
  | m + 1, hn, hq, e1, start =>
    have hm : m + 1 ≤ 0 + z := hn
    obtain ⟨T', b1, b2, b3, b4⟩ := ftm_l u (m + 1) (by omega) m 0 _ none (by omega) ((hL.row _ _).put _ _ _) (by rw [hPut_ne (by decide), hRow_at]) o0
    exact ⟨T', start _ b1, f0.trans (b2.mono (fun p hp => by omega)), fun j hj => (b3 j hj).trans (g0 j hj), b4⟩
end
section
/-! Differences and their halves. -/
def nab (x y : Int32) : Nat := (x.toInt - y.toInt).natAbs
theorem nab_abs {x y : Int32} (hx : bt x 0 999) (hy : bt y 0 999) : jabs (x - y) = nI (nab x y) := by
  obtain ⟨x1, x2⟩ := hx
  obtain ⟨y1, y2⟩ := hy
  have e : (x - y).toInt = x.toInt - y.toInt := i_sub (by omega) (by omega)
  have g : nab x y < 2147483648 := by unfold nab; omega
  unfold jabs
  by_cases c : (0 : Int32) ≤ x - y
  · rw [if_pos c]
    rw [i_le, i_z] at c
    rw [i_eq, ti g, e]
    unfold nab
    omega
  · rw [if_neg c]
    rw [i_le, i_z] at c
    rw [i_eq, ti g, i_neg (by omega), e]
    unfold nab
    omega
theorem nab_away {x y : Int32} (hx : bt x 0 999) (hy : bt y 0 999) : mAway x y = nI (nab x y) := by
  obtain ⟨x1, x2⟩ := hx
  obtain ⟨y1, y2⟩ := hy
  have g : nab x y < 2147483648 := by unfold nab; omega
  unfold mAway
  by_cases c : x ≤ y
  · rw [if_pos c]
    rw [i_le] at c
    rw [i_eq, ti g, i_sub (by omega) (by omega)]
    unfold nab
    omega
  · rw [if_neg c]
    rw [i_le] at c
    rw [i_eq, ti g, i_sub (by omega) (by omega)]
    unfold nab
    omega
theorem nab_lt {x y : Int32} (hx : bt x 0 999) (hy : bt y 0 999) : nab x y < 1000 := by
  obtain ⟨x1, x2⟩ := hx
  obtain ⟨y1, y2⟩ := hy
  unfold nab
  omega
theorem nab_sy (x y : Int32) : nab x y = nab y x := by
  unfold nab
  omega
def cnt : List (Nat × Nat) → Nat → Nat
  | [], _ => 0
  | m :: g, n => (if m.1 = n then m.2 else 0) + cnt g n
def kd : List (Nat × Nat) → Nat
  | [] => 0
  | m :: g => (if cnt g m.1 = 0 then 1 else 0) + kd g
def tw : List (Nat × Nat) → Nat
  | [] => 0
  | m :: g => m.2 + tw g
theorem cnt_s (n w : Nat) (g : List (Nat × Nat)) (j : Nat) : cnt ((n, w) :: g) j = (if n = j then w else 0) + cnt g j := rfl
theorem kd_s (n w : Nat) (g : List (Nat × Nat)) : kd ((n, w) :: g) = (if cnt g n = 0 then 1 else 0) + kd g := rfl
theorem kd_le : ∀ g, kd g ≤ g.length
  | [] => Nat.le_refl _
  | m :: g => by
    have k := kd_le g
    show (if cnt g m.1 = 0 then 1 else 0) + kd g ≤ g.length + 1
    by_cases c : cnt g m.1 = 0
    · rw [if_pos c]; omega
    · rw [if_neg c]; omega
theorem cnt_tw : ∀ g n, cnt g n ≤ tw g
  | [], _ => Nat.le_refl _
  | m :: g, n => by
    have k := cnt_tw g n
    show (if m.1 = n then m.2 else 0) + cnt g n ≤ m.2 + tw g
    by_cases c : m.1 = n
    · rw [if_pos c]; omega
    · rw [if_neg c]; omega
def sumN (f : Nat → Nat) : Nat → Nat
  | 0 => 0
  | k + 1 => sumN f k + f k
theorem sumN_c {f g : Nat → Nat} : ∀ {k}, (∀ q, q < k → f q = g q) → sumN f k = sumN g k
  | 0, _ => rfl
  | k + 1, h => by show sumN f k + f k = sumN g k + g k; rw [sumN_c (fun q hq => h q (by omega)), h k (by omega)]
theorem sumN_one {f g : Nat → Nat} {p w : Nat} : ∀ {k}, p < k → (∀ q, q < k → q ≠ p → f q = g q) → f p = g p + w → sumN f k = sumN g k + w
  | 0, h, _, _ => absurd h (by omega)
  | k + 1, h, h1, h2 => by
    show sumN f k + f k = sumN g k + g k + w
    by_cases c : p = k
    · subst c
      rw [sumN_c (fun q hq => h1 q (by omega) (by omega)), h2]
      omega
    · rw [sumN_one (by omega) (fun q hq => h1 q (by omega)) h2, h1 k (by omega) (fun e => c e.symm)]
      omega
def hvC (S : hS) (g : List (Nat × Nat)) : Prop := ∃ d : Nat → Nat, S.2.1 51 6 = nI (kd g) ∧ (∀ p, p < kd g → d p < 1000 ∧ S.2.1 54 p = nI (d p) ∧ S.2.1 55 p = nI (cnt g (d p)) ∧ 0 < cnt g (d p)) ∧ (∀ p q, p < kd g → q < kd g → d p = d q → p = q) ∧ (∀ n, 0 < cnt g n → ∃ p, p < kd g ∧ d p = n) ∧ sumN (fun p => cnt g (d p)) (kd g) = tw g
theorem po_l (n : Nat) (hn : n < 1000) (d : Nat → Nat) (k : Nat) (hk : k ≤ 40) (S : hS) (hL : hLay S) (h6 : S.2.1 51 6 = nI k) (hd : ∀ p, p < k → d p < 1000 ∧ S.2.1 54 p = nI (d p)) : ∀ (c p : Nat), p + c = k → (∀ q, q < p → ¬ d q = n) → ∃ p', p' ≤ k ∧ (∀ q, q < p' → ¬ d q = n) ∧ (p' < k → d p' = n) ∧ Rn hc_X2_placeOf 2 [some (.inr (some (2, 51))), some (.inl (nI n)), some (.inl (nI p))] [] S (some (nI p'), S) := by
  intro c
  induction c with
  | zero =>
    intro p hp hq
    refine ⟨p, by omega, hq, fun w => absurd w (by omega), ?_⟩
    iterate 4 refine r_step rfl rfl ?_
    rw [h6]
    refine r_i_ge (fun _ => ?_) (fun q => absurd (nI_le (by omega) (by omega)) q)
    refine r_step rfl rfl ?_
    exact r_reti rfl rfl rfl
  | succ c ih =>
    intro p hp hq
    obtain ⟨d1, d2⟩ := hd p (by omega)
    have start : ∀ o, Rn hc_X2_placeOf 17 [some (.inr (some (2, 51))), some (.inl (nI n)), some (.inl (nI p))] [.inl (nI n), .inl (nI (d p))] S o → Rn hc_X2_placeOf 2 [some (.inr (some (2, 51))), some (.inl (nI n)), some (.inl (nI p))] [] S o := by
      intro o k
      iterate 4 refine r_step rfl rfl ?_
      rw [h6]
      refine r_i_ge (fun q => absurd q (nI_ge (by omega) (by omega))) (fun _ => ?_)
      refine r_step rfl rfl ?_
      refine r_getr rfl (rv_51_4 hL) ?_
      refine r_step rfl rfl ?_
      refine r_iald rfl p (ti (by omega)) ⟨⟨by decide, by decide⟩, by show p < 40; omega⟩ ?_
      rw [d2]
      refine r_step rfl rfl ?_
      exact k
    by_cases e : d p = n
    · refine ⟨p, by omega, hq, fun _ => e, start _ ?_⟩
      refine r_step rfl rfl ?_
      refine r_i_eq (fun _ => ?_) (fun q => absurd (congrArg nI e) q)
      refine r_step rfl rfl ?_
      exact r_reti rfl rfl rfl
    · obtain ⟨p', b1, b2, b3, b4⟩ := ih (p + 1) (by omega) (fun q hq2 => by
        by_cases f : q = p
        · rw [f]; exact e
        · exact hq q (by omega))
      refine ⟨p', b1, b2, b3, start _ ?_⟩
      refine r_step rfl rfl ?_
      refine r_i_eq (fun q => absurd ((nI_eq (by omega) (by omega)).1 q) e) (fun _ => ?_)
      iterate 2 refine r_step rfl rfl ?_
      show Rn hc_X2_placeOf 2 [some (.inr (some (2, 51))), some (.inl (nI n)), some (.inl (nI p + 1))] [] _ _
      rw [nI_s1]
      exact b4
theorem e_placeOf (n : Nat) (hn : n < 1000) (d : Nat → Nat) (k : Nat) (hk : k ≤ 40) (S : hS) (hL : hLay S) (h6 : S.2.1 51 6 = nI k) (hd : ∀ p, p < k → d p < 1000 ∧ S.2.1 54 p = nI (d p)) : ∃ p', p' ≤ k ∧ (∀ q, q < p' → ¬ d q = n) ∧ (p' < k → d p' = n) ∧ Ev 29 [.inr (some (2, 51)), .inl (nI n)] S (some (nI p'), S) := by
  obtain ⟨p', b1, b2, b3, b4⟩ := po_l n hn d k hk S hL h6 hd k 0 (by omega) (fun q hq => absurd hq (by omega))
  refine ⟨p', b1, b2, b3, ?_⟩
  show Rn hc_X2_placeOf 0 [some (.inr (some (2, 51))), some (.inl (nI n)), none] [] S _
  iterate 2 refine r_step rfl rfl ?_
  exact b4
set_option maxHeartbeats 4000000 in
set_option maxRecDepth 100000 in
theorem e_addHalves (n w : Nat) (hn : n < 1000) (hw : 0 < w) (S : hS) (g : List (Nat × Nat)) (hL : hLay S) (h : hvC S g) (hg : g.length < 40) : ∃ S', Ev 71 [.inr (some (2, 51)), .inl (nI n), .inl (nI w)] S (none, S') ∧ hFr S S' (fun p => p = 51 ∨ p = 54 ∨ p = 55) ∧ (∀ j, j ≠ 6 → S'.2.1 51 j = S.2.1 51 j) ∧ hvC S' ((n, w) :: g) := by
  obtain ⟨d, h6, hd, hi, hs, ht⟩ := h
  have kl := kd_le g
  obtain ⟨p, b1, b2, b3, b4⟩ := e_placeOf n hn d (kd g) (by omega) S hL h6 (fun p hp => ⟨(hd p hp).1, (hd p hp).2.1⟩)
  have start : ∀ o, Rn hc_X2_addHalves 18 [some (.inr (some (2, 51))), some (.inl (nI n)), some (.inl (nI w)), some (.inl (nI p))] [.inl (nI (kd g)), .inl (nI p)] S o → Ev 71 [.inr (some (2, 51)), .inl (nI n), .inl (nI w)] S o := by
    intro o k
    show Rn hc_X2_addHalves 0 [some (.inr (some (2, 51))), some (.inl (nI n)), some (.inl (nI w)), none] [] S _
    iterate 2 refine r_step rfl rfl ?_
    refine r_call rfl rfl b4 ?_
    iterate 4 refine r_step rfl rfl ?_
    refine r_i_lt (fun _ => ?_) (fun q => absurd (nI_lt (b := 40) (by omega) (by decide)) q)
    iterate 3 refine r_step rfl rfl ?_
    rw [h6]
    exact k
  have fin : ∀ T o, hLay T → Rn hc_X2_addHalves 55 [some (.inr (some (2, 51))), some (.inl (nI n)), some (.inl (nI w)), some (.inl (nI p))] [] (hPut T 55 p (T.2.1 55 p + nI w)) o → Rn hc_X2_addHalves 45 [some (.inr (some (2, 51))), some (.inl (nI n)), some (.inl (nI w)), some (.inl (nI p))] [] T o := by
    intro T o hT k
    refine r_step rfl rfl ?_
    refine r_getr rfl (rv_51_5 hT) ?_
    iterate 2 refine r_step rfl rfl ?_
    refine r_iald rfl p (ti (by omega)) ⟨⟨by decide, by decide⟩, by show p < 40; omega⟩ ?_
    iterate 2 refine r_step rfl rfl ?_
    refine r_iast0 rfl p (ti (by omega)) ⟨⟨by decide, by decide⟩, by show p < 40; omega⟩ ?_
    exact k
  by_cases c : p < kd g
  · have e := b3 c
    obtain ⟨d1, d2, d3, d4⟩ := hd p c
    have ek : kd ((n, w) :: g) = kd g := by rw [kd_s, if_neg (by rw [← e]; omega)]; omega
    have ec : ∀ q, q < kd g → q ≠ p → cnt ((n, w) :: g) (d q) = cnt g (d q) := fun q hq hqp => by
      rw [cnt_s, if_neg (fun x => hqp (hi q p hq c (by rw [e]; exact x.symm)))]; omega
    have ep : cnt ((n, w) :: g) (d p) = cnt g (d p) + w := by rw [cnt_s, if_pos e.symm]; omega
    refine ⟨hPut S 55 p (S.2.1 55 p + nI w), start _ ?_, hFr_put _ _ _ _ (Or.inr (Or.inr rfl)), fun j _ => by rw [hPut_ne (by decide)], d, ?_, ?_, ?_, ?_, ?_⟩
    · refine r_step rfl rfl ?_
      refine r_i_ne (fun _ => ?_) (fun q => absurd ((nI_eq (by omega) (by omega)).1 q) (by omega))
      refine fin S _ hL ?_
      exact r_retn rfl rfl
    · rw [hPut_ne (by decide), ek]; exact h6
    · intro q hq
      rw [ek] at hq
      obtain ⟨f1, f2, f3, f4⟩ := hd q hq
      rw [hPut_ne (by decide), hPut_at]
      by_cases f : q = p
      · subst f
        rw [pk_us, ep, d3, nI_add]
        exact ⟨f1, f2, rfl, by omega⟩
      · rw [pk_un f, ec q hq f]
        exact ⟨f1, f2, f3, f4⟩
    · intro q r hq hr2
      rw [ek] at hq hr2
      exact hi q r hq hr2
    · intro m hm
      rw [ek]
      by_cases f : n = m
      · exact ⟨p, c, e.trans f⟩
      · rw [cnt_s, if_neg f] at hm
        exact hs m (by omega)
    · rw [ek, sumN_one (p := p) (w := w) (g := fun q => cnt g (d q)) c ec ep, ht]
      show tw g + w = w + tw g
      omega
  · have e : p = kd g := by omega
    have c0 : cnt g n = 0 := by
      by_cases f : cnt g n = 0
      · exact f
      · obtain ⟨q, q1, q2⟩ := hs n (by omega)
        exact absurd q2 (b2 q (by omega))
    have ek : kd ((n, w) :: g) = kd g + 1 := by rw [kd_s, if_pos c0]; omega
    have ec : ∀ q, q < kd g → cnt ((n, w) :: g) (d q) = cnt g (d q) := fun q hq => by
      rw [cnt_s, if_neg (fun x => b2 q (by omega) x.symm)]; omega
    obtain ⟨d', dk, dn⟩ : ∃ d' : Nat → Nat, d' (kd g) = n ∧ ∀ q, q ≠ kd g → d' q = d q := ⟨fun q => if q = kd g then n else d q, if_pos rfl, fun q hq => if_neg hq⟩
    have eN : cnt ((n, w) :: g) n = w := by rw [cnt_s, if_pos rfl, c0]; rfl
    refine ⟨hPut (hPut (hPut (hPut S 54 p (nI n)) 55 p 0) 51 6 (nI (kd g + 1))) 55 p (nI w), start _ ?_, (((hFr_put _ _ _ _ (Or.inr (Or.inl rfl))).trans (hFr_put _ _ _ _ (Or.inr (Or.inr rfl)))).trans (hFr_put _ _ _ _ (Or.inl rfl))).trans (hFr_put _ _ _ _ (Or.inr (Or.inr rfl))), fun j hj => by rw [hPut_ne (by decide), hPut_at, pk_un hj, hPut_ne (by decide), hPut_ne (by decide)], d', ?_, ?_, ?_, ?_, ?_⟩
    · refine r_step rfl rfl ?_
      refine r_i_ne (fun q => absurd (congrArg nI e) q) (fun _ => ?_)
      refine r_step rfl rfl ?_
      refine r_getr rfl (rv_51_4 hL) ?_
      iterate 2 refine r_step rfl rfl ?_
      refine r_iast0 rfl p (ti (by omega)) ⟨⟨by decide, by decide⟩, by show p < 40; omega⟩ ?_
      refine r_step rfl rfl ?_
      refine r_getr rfl (rv_51_5 (hL.put _ _ _)) ?_
      iterate 2 refine r_step rfl rfl ?_
      refine r_iast0 rfl p (ti (by omega)) ⟨⟨by decide, by decide⟩, by show p < 40; omega⟩ ?_
      iterate 6 refine r_step rfl rfl ?_
      rw [hPut_ne (show 51 ≠ 55 by decide), hPut_ne (show 51 ≠ 54 by decide), h6, nI_s1]
      refine fin _ _ (((hL.put _ _ _).put _ _ _).put _ _ _) ?_
      rw [hPut_ne (show 55 ≠ 51 by decide), hPut_at, pk_us, Int32.zero_add]
      exact r_retn rfl rfl
    · rw [hPut_ne (by decide), hPut_at, pk_us, ek]
    · intro q hq
      rw [ek] at hq
      rw [hPut_ne (show 54 ≠ 55 by decide), hPut_ne (show 54 ≠ 51 by decide), hPut_ne (show 54 ≠ 55 by decide), hPut_at, hPut_at, hPut_ne (show 55 ≠ 51 by decide), hPut_at, hPut_ne (show 55 ≠ 54 by decide)]
      by_cases f : q = kd g
      · have f2 : q = p := by omega
        rw [f2, pk_us, pk_us, e, dk, eN]
        exact ⟨hn, rfl, rfl, hw⟩
      · obtain ⟨f1, f2, f3, f4⟩ := hd q (by omega)
        rw [dn q f, pk_un (by omega), pk_un (by omega), pk_un (by omega), ec q (by omega)]
        exact ⟨f1, f2, f3, f4⟩
    · intro q r hq hr2
      rw [ek] at hq hr2
      by_cases f : q = kd g
      · by_cases f2 : r = kd g
        · exact fun _ => f.trans f2.symm
        · rw [f, dk, dn r f2]
          exact fun x => absurd x.symm (b2 r (by omega))
      · by_cases f2 : r = kd g
        · rw [dn q f, f2, dk]
          exact fun x => absurd x (b2 q (by omega))
        · rw [dn q f, dn r f2]
          exact hi q r (by omega) (by omega)
    · intro m hm
      rw [ek]
      by_cases f : n = m
      · exact ⟨kd g, by omega, dk.trans f⟩
      · rw [cnt_s, if_neg f] at hm
        obtain ⟨q, q1, q2⟩ := hs m (by omega)
        exact ⟨q, by omega, (dn q (by omega)).trans q2⟩
    · rw [ek]
      show sumN _ (kd g) + cnt ((n, w) :: g) (d' (kd g)) = w + tw g
      rw [dk, eN, sumN_c (g := fun q => cnt g (d q)) (fun q hq => by
        show cnt ((n, w) :: g) (d' q) = cnt g (d q)
        rw [dn q (by omega)]
        exact ec q hq), ht]
      omega
end
section
/-! The class's row on the roof. -/
def cl : Nat → List Int32 → Nat → List (Nat × Nat) → List Int32 × Nat × List (Nat × Nat)
  | d + 1, x3 :: x2 :: x1 :: x0 :: R, c, g => if nab x2 x1 ≤ nab x1 x0 ∧ nab x2 x1 ≤ nab x3 x2 then cl d (x3 :: x0 :: R) (c + 1) ((nab x2 x1, 2) :: g) else (x3 :: x2 :: x1 :: x0 :: R, c, g)
  | _, R, c, g => (R, c, g)
theorem cl_s (d : Nat) (x3 x2 x1 x0 : Int32) (R : List Int32) (c : Nat) (g : List (Nat × Nat)) : cl (d + 1) (x3 :: x2 :: x1 :: x0 :: R) c g = if nab x2 x1 ≤ nab x1 x0 ∧ nab x2 x1 ≤ nab x3 x2 then cl d (x3 :: x0 :: R) (c + 1) ((nab x2 x1, 2) :: g) else (x3 :: x2 :: x1 :: x0 :: R, c, g) := rfl
def gd (i : Nat) (z : List Int32 × Nat × List (Nat × Nat)) : Prop := (∀ x ∈ z.1, bt x 0 999) ∧ z.1.length + 2 * z.2.1 = i ∧ z.2.2.length = z.2.1 ∧ (∀ y ∈ z.2.2, y.1 < 1000) ∧ tw z.2.2 = 2 * z.2.1
theorem gd_step {i : Nat} {x3 x2 x1 x0 : Int32} {R : List Int32} {c : Nat} {g : List (Nat × Nat)} (h : gd i (x3 :: x2 :: x1 :: x0 :: R, c, g)) : gd i (x3 :: x0 :: R, c + 1, (nab x2 x1, 2) :: g) := by
  obtain ⟨a, b, d, e, f⟩ := h
  have b' : R.length + 4 + 2 * c = i := b
  have d' : g.length = c := d
  have f' : tw g = 2 * c := f
  refine ⟨fun x hx => a x ?_, ?_, ?_, fun y hy => ?_, ?_⟩
  · rcases List.mem_cons.1 hx with rfl | hx
    · exact List.mem_cons_self
    · rcases List.mem_cons.1 hx with rfl | hx
      · exact List.mem_cons_of_mem _ (List.mem_cons_of_mem _ (List.mem_cons_of_mem _ List.mem_cons_self))
      · exact List.mem_cons_of_mem _ (List.mem_cons_of_mem _ (List.mem_cons_of_mem _ (List.mem_cons_of_mem _ hx)))
  · show R.length + 1 + 1 + 2 * (c + 1) = i
    omega
  · show g.length + 1 = c + 1
    omega
  · rcases List.mem_cons.1 hy with rfl | hy
    · exact nab_lt (a _ (List.mem_cons_of_mem _ List.mem_cons_self)) (a _ (List.mem_cons_of_mem _ (List.mem_cons_of_mem _ List.mem_cons_self)))
    · exact e y hy
  · show 2 + tw g = 2 * (c + 1)
    omega
theorem gd_cl (i : Nat) : ∀ (d : Nat) (R : List Int32) (c : Nat) (g : List (Nat × Nat)), gd i (R, c, g) → gd i (cl d R c g)
  | 0, R, c, g, h => by unfold cl; exact h
  | d + 1, [], c, g, h => h
  | d + 1, [_], c, g, h => h
  | d + 1, [_, _], c, g, h => h
  | d + 1, [_, _, _], c, g, h => h
  | d + 1, x3 :: x2 :: x1 :: x0 :: R, c, g, h => by
    rw [cl_s]
    by_cases k : nab x2 x1 ≤ nab x1 x0 ∧ nab x2 x1 ≤ nab x3 x2
    · rw [if_pos k]; exact gd_cl i d _ _ _ (gd_step h)
    · rw [if_neg k]; exact h
theorem ix {s x : Int32} {n b : Nat} (a : Nat) (hs : s = nI n) (hx : x = nI b) (h : n = a + b) (hn : n < 2147483648) : (s - x).toInt = (a : Int) := by
  rw [hs, h, sub_lit hx (by omega)]
  exact ti (by omega)
theorem nle_lit {a b : Nat} (ha : a < 2147483648) (hb : b < 2147483648) : nI b < nI a ↔ b < a := by
  rw [i_lt, ti ha, ti hb]
  omega
theorem e_inside (x3 x2 x1 x0 : Int32) (R : List Int32) (S : hS) (hL : hLay S) (hR : rL (S.2.1 53) (x3 :: x2 :: x1 :: x0 :: R)) (hs : S.2.1 51 3 = nI (R.length + 4)) (hl : R.length + 4 ≤ 40) (b3 : bt x3 0 999) (b2 : bt x2 0 999) (b1 : bt x1 0 999) (b0 : bt x0 0 999) : Ev 75 [.inr (some (2, 51))] S (some (if nab x2 x1 ≤ nab x1 x0 ∧ nab x2 x1 ≤ nab x3 x2 then 1 else 0), S) := by
  obtain ⟨r3, r2, r1, r0, -⟩ := hR
  have q3 : S.2.1 53 (R.length + 3) = x3 := r3
  have q2 : S.2.1 53 (R.length + 2) = x2 := r2
  have q1 : S.2.1 53 (R.length + 1) = x1 := r1
  show Rn hc_X2_isCycleInside 0 [some (.inr (some (2, 51))), none, none, none] [] S _
  refine r_step rfl rfl ?_
  refine r_getr rfl (rv_51_2 hL) ?_
  iterate 4 refine r_step rfl rfl ?_
  refine r_iald rfl (R.length + 1) (ix (R.length + 1) hs (b := 3) rfl (by omega) (by omega)) ⟨⟨by decide, by decide⟩, by show R.length + 1 < 40; omega⟩ ?_
  refine r_step rfl rfl ?_
  refine r_getr rfl (rv_51_2 hL) ?_
  iterate 4 refine r_step rfl rfl ?_
  refine r_iald rfl R.length (ix R.length hs (b := 4) rfl (by omega) (by omega)) ⟨⟨by decide, by decide⟩, by show R.length < 40; omega⟩ ?_
  refine r_step rfl rfl ?_
  rw [q1, r0]
  refine r_call rfl rfl (e_abs _ _) ?_
  rw [nab_abs b1 b0]
  iterate 2 refine r_step rfl rfl ?_
  refine r_getr rfl (rv_51_2 hL) ?_
  iterate 4 refine r_step rfl rfl ?_
  refine r_iald rfl (R.length + 2) (ix (R.length + 2) hs (b := 2) rfl (by omega) (by omega)) ⟨⟨by decide, by decide⟩, by show R.length + 2 < 40; omega⟩ ?_
  refine r_step rfl rfl ?_
  refine r_getr rfl (rv_51_2 hL) ?_
  iterate 4 refine r_step rfl rfl ?_
  refine r_iald rfl (R.length + 1) (ix (R.length + 1) hs (b := 3) rfl (by omega) (by omega)) ⟨⟨by decide, by decide⟩, by show R.length + 1 < 40; omega⟩ ?_
  refine r_step rfl rfl ?_
  rw [q1, q2]
  refine r_call rfl rfl (e_abs _ _) ?_
  rw [nab_abs b2 b1]
  iterate 2 refine r_step rfl rfl ?_
  refine r_getr rfl (rv_51_2 hL) ?_
  iterate 4 refine r_step rfl rfl ?_
  refine r_iald rfl (R.length + 3) (ix (R.length + 3) hs (b := 1) rfl (by omega) (by omega)) ⟨⟨by decide, by decide⟩, by show R.length + 3 < 40; omega⟩ ?_
  refine r_step rfl rfl ?_
  refine r_getr rfl (rv_51_2 hL) ?_
  iterate 4 refine r_step rfl rfl ?_
  refine r_iald rfl (R.length + 2) (ix (R.length + 2) hs (b := 2) rfl (by omega) (by omega)) ⟨⟨by decide, by decide⟩, by show R.length + 2 < 40; omega⟩ ?_
  refine r_step rfl rfl ?_
  rw [q2, q3]
  refine r_call rfl rfl (e_abs _ _) ?_
  rw [nab_abs b3 b2]
  have l1 := nab_lt b1 b0
  have l2 := nab_lt b2 b1
  have l3 := nab_lt b3 b2
  have out : ¬ (nab x2 x1 ≤ nab x1 x0 ∧ nab x2 x1 ≤ nab x3 x2) → Rn hc_X2_isCycleInside 95 [some (.inr (some (2, 51))), some (.inl (nI (nab x1 x0))), some (.inl (nI (nab x2 x1))), some (.inl (nI (nab x3 x2)))] [] S (some (if nab x2 x1 ≤ nab x1 x0 ∧ nab x2 x1 ≤ nab x3 x2 then 1 else 0), S) := by
    intro c
    rw [if_neg c]
    refine r_step rfl rfl ?_
    exact r_retz rfl (Or.inl rfl) rfl rfl
  iterate 4 refine r_step rfl rfl ?_
  refine r_i_gt (fun q => out (fun w => by rw [nle_lit (by omega) (by omega)] at q; omega)) (fun q => ?_)
  iterate 3 refine r_step rfl rfl ?_
  refine r_i_gt (fun q => out (fun w => by rw [nle_lit (by omega) (by omega)] at q; omega)) (fun p => ?_)
  rw [nle_lit (by omega) (by omega)] at p q
  rw [if_pos ⟨by omega, by omega⟩]
  iterate 2 refine r_step rfl rfl ?_
  exact r_retz rfl (Or.inr rfl) rfl rfl
def rOk (S : hS) (z : List Int32 × Nat × List (Nat × Nat)) : Prop := rL (S.2.1 53) z.1 ∧ S.2.1 51 3 = nI z.1.length ∧ S.2.1 51 7 = nI z.2.1 ∧ hvC S z.2.2
theorem hvC.congr {S S' : hS} {g : List (Nat × Nat)} (h : hvC S g) (e6 : S'.2.1 51 6 = S.2.1 51 6) (e4 : S'.2.1 54 = S.2.1 54) (e5 : S'.2.1 55 = S.2.1 55) : hvC S' g := by
  unfold hvC at *
  rw [e6, e4, e5]
  exact h
set_option maxHeartbeats 4000000 in
set_option maxRecDepth 100000 in
theorem atr_l (x : Int32) (i : Nat) (hi : i ≤ 40) : ∀ (d : Nat) (R : List Int32) (c : Nat) (g : List (Nat × Nat)) (T : hS), R.length ≤ d + 3 → gd i (R, c, g) → hLay T → rOk T (R, c, g) → ∃ T', Rn hc_X2_addToRow 30 [some (.inr (some (2, 51))), some (.inl x)] [] T (none, T') ∧ hFr T T' (fun p => p = 51 ∨ p = 53 ∨ p = 54 ∨ p = 55) ∧ (∀ j, j ≠ 3 → j ≠ 6 → j ≠ 7 → T'.2.1 51 j = T.2.1 51 j) ∧ rOk T' (cl d R c g) := by
  intro d
  have few : ∀ (R : List Int32) (c : Nat) (g : List (Nat × Nat)) (T : hS), R.length < 4 → hLay T → rOk T (R, c, g) → Rn hc_X2_addToRow 30 [some (.inr (some (2, 51))), some (.inl x)] [] T (none, T) := by
    intro R c g T hl hL ho
    have hs : T.2.1 51 3 = nI R.length := ho.2.1
    iterate 4 refine r_step rfl rfl ?_
    rw [hs]
    refine r_i_lt (fun _ => r_retn rfl rfl) (fun q => absurd (nI_lt (b := 4) hl (by decide)) q)
  induction d with
  | zero =>
    intro R c g T hR hg hL ho
    refine ⟨T, few R c g T (by omega) hL ho, hFr.rf _ _, fun _ _ _ _ => rfl, ?_⟩
    unfold cl
    exact ho
  | succ d ih =>
    intro R c g T hR hg hL ho
    match R, hR, hg, ho with
    | [], hR, hg, ho => exact ⟨T, few [] c g T (show 0 < 4 by omega) hL ho, hFr.rf _ _, fun _ _ _ _ => rfl, ho⟩
    | [y0], hR, hg, ho => exact ⟨T, few [y0] c g T (show 1 < 4 by omega) hL ho, hFr.rf _ _, fun _ _ _ _ => rfl, ho⟩
    | [y0, y1], hR, hg, ho => exact ⟨T, few [y0, y1] c g T (show 2 < 4 by omega) hL ho, hFr.rf _ _, fun _ _ _ _ => rfl, ho⟩
    | [y0, y1, y2], hR, hg, ho => exact ⟨T, few [y0, y1, y2] c g T (show 3 < 4 by omega) hL ho, hFr.rf _ _, fun _ _ _ _ => rfl, ho⟩
    | x3 :: x2 :: x1 :: x0 :: R, hR, hg, ho =>
      obtain ⟨o1, o2, o3, o4⟩ := ho
      have hs : T.2.1 51 3 = nI (R.length + 4) := o2
      have hc7 : T.2.1 51 7 = nI c := o3
      have hl : R.length + 4 + 2 * c = i := hg.2.1
      have hgl : g.length = c := hg.2.2.1
      have hR2 : R.length + 4 ≤ d + 1 + 3 := hR
      have m3 := hg.1 x3 List.mem_cons_self
      have m2 := hg.1 x2 (List.mem_cons_of_mem _ List.mem_cons_self)
      have m1 := hg.1 x1 (List.mem_cons_of_mem _ (List.mem_cons_of_mem _ List.mem_cons_self))
      have m0 := hg.1 x0 (List.mem_cons_of_mem _ (List.mem_cons_of_mem _ (List.mem_cons_of_mem _ List.mem_cons_self)))
      have ins := e_inside x3 x2 x1 x0 R T hL o1 hs (by omega) m3 m2 m1 m0
      have start : ∀ o, Rn hc_X2_addToRow 42 [some (.inr (some (2, 51))), some (.inl x)] [.inl (if nab x2 x1 ≤ nab x1 x0 ∧ nab x2 x1 ≤ nab x3 x2 then 1 else 0)] T o → Rn hc_X2_addToRow 30 [some (.inr (some (2, 51))), some (.inl x)] [] T o := by
        intro o k
        iterate 4 refine r_step rfl rfl ?_
        rw [hs]
        refine r_i_lt (fun q => absurd q (by rw [show (4 : Int32) = nI 4 from rfl, nle_lit (by decide) (by omega)]; omega)) (fun _ => ?_)
        refine r_step rfl rfl ?_
        exact r_call rfl rfl ins k
      rw [cl_s]
      by_cases k : nab x2 x1 ≤ nab x1 x0 ∧ nab x2 x1 ≤ nab x3 x2
      · rw [if_pos k] at start ⊢
        obtain ⟨r3, r2, r1, r0, rr⟩ := o1
        have q3 : T.2.1 53 (R.length + 3) = x3 := r3
        have q2 : T.2.1 53 (R.length + 2) = x2 := r2
        have q1 : T.2.1 53 (R.length + 1) = x1 := r1
        have hL1 : hLay (hPut T 51 7 (nI (c + 1))) := hL.put _ _ _
        have hc1 : hvC (hPut T 51 7 (nI (c + 1))) g := o4.congr (by rw [hPut_at, pk_un (by decide)]) (hPut_ne (by decide)) (hPut_ne (by decide))
        obtain ⟨T1, a1, a2, a3, a4⟩ := e_addHalves (nab x2 x1) 2 (nab_lt m2 m1) (by decide) (hPut T 51 7 (nI (c + 1))) g hL1 hc1 (by omega)
        have hL2 := hL1.fr a2
        have p3 : T1.2.1 51 3 = nI (R.length + 4) := by rw [a3 3 (by decide), hPut_at, pk_un (by decide)]; exact hs
        have p7 : T1.2.1 51 7 = nI (c + 1) := by rw [a3 7 (by decide), hPut_at, pk_us]
        have p53 : T1.2.1 53 = T.2.1 53 := by rw [a2.2.2 53 (by decide), hPut_ne (by decide)]
        have hL3 : hLay (hPut (hPut T1 53 (R.length + 1) x3) 51 3 (nI (R.length + 2))) := (hL2.put _ _ _).put _ _ _
        obtain ⟨T2, b1, b2, b3, b4⟩ := ih (x3 :: x0 :: R) (c + 1) ((nab x2 x1, 2) :: g) (hPut (hPut T1 53 (R.length + 1) x3) 51 3 (nI (R.length + 2))) (by show R.length + 1 + 1 ≤ d + 3; omega) (gd_step hg) hL3 (by
          refine ⟨?_, ?_, ?_, ?_⟩
          · show rL _ (x3 :: x0 :: R)
            rw [hPut_ne (by decide), hPut_at, p53]
            exact ⟨pk_us .., by rw [pk_un (by omega)]; exact r0, rL.up rr (by omega)⟩
          · rw [hPut_at, pk_us]; rfl
          · rw [hPut_at, pk_un (by decide), hPut_ne (by decide)]; exact p7
          · exact a4.congr (by rw [hPut_at, pk_un (by decide), hPut_ne (by decide)]) (by rw [hPut_ne (by decide), hPut_ne (by decide)]) (by rw [hPut_ne (by decide), hPut_ne (by decide)]))
        have frP : hFr T1 (hPut (hPut T1 53 (R.length + 1) x3) 51 3 (nI (R.length + 2))) (fun p => p = 51 ∨ p = 53 ∨ p = 54 ∨ p = 55) := (hFr_put _ _ _ _ (Or.inr (Or.inl rfl))).trans (hFr_put _ _ _ _ (Or.inl rfl))
        refine ⟨T2, start _ ?_, ((((hFr_put T 51 7 (nI (c + 1)) (Or.inl rfl))).trans (a2.mono (fun p hp => by omega))).trans frP).trans b2, fun j h3 h6 h7 => ?_, b4⟩
        · iterate 8 refine r_step rfl rfl ?_
          rw [hc7, nI_s1]
          refine r_step rfl rfl ?_
          refine r_getr rfl (rv_51_2 hL1) ?_
          have s1 : (hPut T 51 7 (nI (c + 1))).2.1 51 3 = nI (R.length + 4) := by rw [hPut_at, pk_un (by decide)]; exact hs
          have s53 : (hPut T 51 7 (nI (c + 1))).2.1 53 = T.2.1 53 := hPut_ne (by decide)
          iterate 4 refine r_step rfl rfl ?_
          refine r_iald rfl (R.length + 2) (ix (R.length + 2) s1 (b := 2) rfl (by omega) (by omega)) ⟨⟨by decide, by decide⟩, by show R.length + 2 < 40; omega⟩ ?_
          refine r_step rfl rfl ?_
          refine r_getr rfl (rv_51_2 hL1) ?_
          iterate 4 refine r_step rfl rfl ?_
          refine r_iald rfl (R.length + 1) (ix (R.length + 1) s1 (b := 3) rfl (by omega) (by omega)) ⟨⟨by decide, by decide⟩, by show R.length + 1 < 40; omega⟩ ?_
          refine r_step rfl rfl ?_
          rw [s53, q2, q1]
          refine r_call rfl rfl (e_abs _ _) ?_
          rw [nab_abs m2 m1]
          refine r_step rfl rfl ?_
          refine r_callv rfl rfl a1 ?_
          refine r_step rfl rfl ?_
          refine r_getr rfl (rv_51_2 hL2) ?_
          iterate 5 refine r_step rfl rfl ?_
          refine r_getr rfl (rv_51_2 hL2) ?_
          iterate 4 refine r_step rfl rfl ?_
          refine r_iald rfl (R.length + 3) (ix (R.length + 3) p3 (b := 1) rfl (by omega) (by omega)) ⟨⟨by decide, by decide⟩, by show R.length + 3 < 40; omega⟩ ?_
          rw [p53, q3]
          refine r_iast0 rfl (R.length + 1) (ix (R.length + 1) p3 (b := 3) rfl (by omega) (by omega)) ⟨⟨by decide, by decide⟩, by show R.length + 1 < 40; omega⟩ ?_
          iterate 6 refine r_step rfl rfl ?_
          rw [hPut_ne (show 51 ≠ 53 by decide), p3, show nI (R.length + 4) - 2 = nI (R.length + 2) from sub_lit (a := R.length + 2) (b := 2) (x := 2) rfl (by omega)]
          refine r_step rfl rfl ?_
          exact b1
        · rw [b3 j h3 h6 h7, hPut_at, pk_un h3, hPut_ne (by decide), a3 j h6, hPut_at, pk_un h7]
      · rw [if_neg k] at start ⊢
        refine ⟨T, start _ ?_, hFr.rf _ _, fun _ _ _ _ => rfl, o1, o2, o3, o4⟩
        refine r_step rfl rfl ?_
        exact r_retn rfl rfl
end
section
/-! The class pours. -/
def po (t : Nat → Int32) : Nat → List Int32 × Nat × List (Nat × Nat)
  | 0 => ([], 0, [])
  | i + 1 => cl 40 (t i :: (po t i).1) (po t i).2.1 (po t i).2.2
theorem po_s (t : Nat → Int32) (i : Nat) : po t (i + 1) = cl 40 (t i :: (po t i).1) (po t i).2.1 (po t i).2.2 := rfl
theorem po_c {t v : Nat → Int32} : ∀ n, (∀ i, i < n → t i = v i) → po t n = po v n
  | 0, _ => rfl
  | n + 1, h => by rw [po_s, po_s, po_c n (fun i hi => h i (by omega)), h n (by omega)]
theorem gd_push {i : Nat} {z : List Int32 × Nat × List (Nat × Nat)} {x : Int32} (h : gd i z) (hx : bt x 0 999) : gd (i + 1) (x :: z.1, z.2.1, z.2.2) := by
  obtain ⟨a, b, d, e, f⟩ := h
  refine ⟨fun y hy => ?_, ?_, d, e, f⟩
  · rcases List.mem_cons.1 hy with rfl | hy
    · exact hx
    · exact a y hy
  · show z.1.length + 1 + 2 * z.2.1 = i + 1
    omega
theorem gd_po {t : Nat → Int32} : ∀ n, (∀ i, i < n → bt (t i) 0 999) → gd n (po t n)
  | 0, _ => ⟨fun x hx => (nomatch hx), rfl, rfl, fun x hx => (nomatch hx), rfl⟩
  | n + 1, h => by
    rw [po_s]
    exact gd_cl (n + 1) 40 _ _ _ (gd_push (gd_po n (fun i hi => h i (by omega))) (h n (by omega)))
theorem e_addToRow (x : Int32) (i : Nat) (hi : i < 40) (hx : bt x 0 999) (z : List Int32 × Nat × List (Nat × Nat)) (S : hS) (hg : gd i z) (hL : hLay S) (ho : rOk S z) : ∃ S', Ev 106 [.inr (some (2, 51)), .inl x] S (none, S') ∧ hFr S S' (fun p => p = 51 ∨ p = 53 ∨ p = 54 ∨ p = 55) ∧ (∀ j, j ≠ 3 → j ≠ 6 → j ≠ 7 → S'.2.1 51 j = S.2.1 51 j) ∧ rOk S' (cl 40 (x :: z.1) z.2.1 z.2.2) := by
  obtain ⟨o1, o2, o3, o4⟩ := ho
  have hl : z.1.length + 2 * z.2.1 = i := hg.2.1
  have hL1 : hLay (hPut (hPut S 53 z.1.length x) 51 3 (nI (z.1.length + 1))) := (hL.put _ _ _).put _ _ _
  obtain ⟨S', a1, a2, a3, a4⟩ := atr_l x (i + 1) (by omega) 40 (x :: z.1) z.2.1 z.2.2 (hPut (hPut S 53 z.1.length x) 51 3 (nI (z.1.length + 1))) (by show z.1.length + 1 ≤ 40 + 3; omega) (gd_push hg hx) hL1 (by
    refine ⟨?_, ?_, ?_, ?_⟩
    · show rL _ (x :: z.1)
      rw [hPut_ne (by decide), hPut_at]
      exact o1.push
    · rw [hPut_at, pk_us]; rfl
    · rw [hPut_at, pk_un (by decide), hPut_ne (by decide)]; exact o3
    · exact o4.congr (by rw [hPut_at, pk_un (by decide), hPut_ne (by decide)]) (by rw [hPut_ne (by decide), hPut_ne (by decide)]) (by rw [hPut_ne (by decide), hPut_ne (by decide)]))
  refine ⟨S', ?_, ((hFr_put S 53 z.1.length x (Or.inr (Or.inl rfl))).trans (hFr_put _ _ _ _ (Or.inl rfl))).trans a2, fun j h3 h6 h7 => ?_, a4⟩
  · show Rn hc_X2_addToRow 0 [some (.inr (some (2, 51))), some (.inl x)] [] S _
    iterate 4 refine r_step rfl rfl ?_
    rw [o2]
    refine r_i_lt (fun _ => ?_) (fun q => absurd (nI_lt (b := 40) (by omega) (by decide)) q)
    refine r_step rfl rfl ?_
    refine r_getr rfl (rv_51_2 hL) ?_
    iterate 3 refine r_step rfl rfl ?_
    refine r_iast0 rfl z.1.length (by rw [o2]; exact ti (by omega)) ⟨⟨by decide, by decide⟩, by show z.1.length < 40; omega⟩ ?_
    iterate 6 refine r_step rfl rfl ?_
    rw [hPut_ne (show 51 ≠ 53 by decide), o2, nI_s1]
    exact a1
  · rw [a3 j h3 h6 h7, hPut_at, pk_un h3, hPut_ne (by decide)]
theorem pour2 (t : Nat → Int32) (n : Nat) (hn : n ≤ 40) (ht : ∀ i, i < n → bt (t i) 0 999) : ∀ (d i : Nat) (T : hS), i + d = n → hLay T → T.2.1 52 = t → T.2.1 51 1 = nI n → rOk T (po t i) → ∃ T', hFr T T' (fun p => p = 51 ∨ p = 53 ∨ p = 54 ∨ p = 55) ∧ (∀ j, j ≠ 3 → j ≠ 6 → j ≠ 7 → T'.2.1 51 j = T.2.1 51 j) ∧ rOk T' (po t n) ∧ (∀ o, Rn hc_X2_pour 78 [some (.inr (some (2, 51))), some (.inr (some (7, 8))), some (.inl (nI n))] [] T' o → Rn hc_X2_pour 48 [some (.inr (some (2, 51))), some (.inr (some (7, 8))), some (.inl (nI i))] [] T o) := by
  intro d
  induction d with
  | zero =>
    intro i T hi hL h52 h1 ho
    have : i = n := by omega
    subst this
    refine ⟨T, hFr.rf _ _, fun _ _ _ _ => rfl, ho, fun o k => ?_⟩
    iterate 4 refine r_step rfl rfl ?_
    rw [h1]
    exact r_i_ge (fun _ => k) (fun q => absurd (nI_le (Nat.le_refl i) (by omega)) q)
  | succ d ih =>
    intro i T hi hL h52 h1 ho
    obtain ⟨T1, a1, a2, a3, a4⟩ := e_addToRow (t i) i (by omega) (ht i (by omega)) (po t i) T (gd_po i (fun j hj => ht j (by omega))) hL ho
    obtain ⟨T2, b1, b2, b3, b4⟩ := ih (i + 1) T1 (by omega) (hL.fr a2) (by rw [a2.2.2 52 (by decide)]; exact h52) (by rw [a3 1 (by decide) (by decide) (by decide)]; exact h1) a4
    refine ⟨T2, a2.trans b1, fun j h3 h6 h7 => (b2 j h3 h6 h7).trans (a3 j h3 h6 h7), b3, fun o k => ?_⟩
    iterate 4 refine r_step rfl rfl ?_
    rw [h1]
    refine r_i_ge (fun q => absurd q (nI_ge (by omega) (by omega))) (fun _ => ?_)
    iterate 3 refine r_step rfl rfl ?_
    refine r_i_ge (fun q => absurd q (lt_lit (N := 40) rfl (by decide) (by omega))) (fun _ => ?_)
    iterate 2 refine r_step rfl rfl ?_
    refine r_getr rfl (rv_51_0 hL) ?_
    refine r_step rfl rfl ?_
    refine r_iald rfl i (ti (by omega)) ⟨⟨by decide, by decide⟩, by show i < 40; omega⟩ ?_
    rw [h52]
    refine r_callv rfl rfl a1 ?_
    iterate 2 refine r_step rfl rfl ?_
    show Rn hc_X2_pour 48 [some (.inr (some (2, 51))), some (.inr (some (7, 8))), some (.inl (nI i + 1))] [] _ _
    rw [nI_s1]
    exact b4 o k
/-- the halves of what stays on the roof -/
def lg (f : Nat → Int32) (g : List (Nat × Nat)) : Nat → List (Nat × Nat)
  | 0 => g
  | j + 1 => (nab (f (j + 1)) (f j), 1) :: lg f g j
theorem lg_c {f v : Nat → Int32} (g : List (Nat × Nat)) : ∀ m, (∀ i, i ≤ m → f i = v i) → lg f g m = lg v g m
  | 0, _ => rfl
  | m + 1, h => by
    show (nab (f (m + 1)) (f m), 1) :: lg f g m = (nab (v (m + 1)) (v m), 1) :: lg v g m
    rw [lg_c g m (fun i hi => h i (by omega)), h (m + 1) (by omega), h m (by omega)]
theorem lg_len (f : Nat → Int32) (g : List (Nat × Nat)) : ∀ m, (lg f g m).length = g.length + m
  | 0 => rfl
  | m + 1 => by show (lg f g m).length + 1 = _; rw [lg_len f g m]; omega
theorem lg_tw (f : Nat → Int32) (g : List (Nat × Nat)) : ∀ m, tw (lg f g m) = tw g + m
  | 0 => rfl
  | m + 1 => by show 1 + tw (lg f g m) = _; rw [lg_tw f g m]; omega
theorem rL_mem {f : Nat → Int32} : ∀ {R : List Int32}, rL f R → ∀ i, i < R.length → f i ∈ R
  | [], _, i, hi => absurd hi (Nat.not_lt_zero i)
  | x :: R, h, i, hi => by
    have hi2 : i < R.length + 1 := hi
    by_cases c : i = R.length
    · rw [c, h.1]; exact List.mem_cons_self
    · exact List.mem_cons_of_mem _ (rL_mem h.2 i (by omega))
theorem rL_eq {f v : Nat → Int32} : ∀ {R : List Int32}, rL f R → rL v R → ∀ i, i < R.length → f i = v i
  | [], _, _, i, hi => absurd hi (Nat.not_lt_zero i)
  | x :: R, h, k, i, hi => by
    have hi2 : i < R.length + 1 := hi
    by_cases c : i = R.length
    · rw [c, h.1, k.1]
    · exact rL_eq h.2 k.2 i (by omega)
theorem pour3 (f : Nat → Int32) (g : List (Nat × Nat)) (s : Nat) (hf : ∀ i, i < s → bt (f i) 0 999) (hsg : g.length + s ≤ 40) : ∀ (d j : Nat) (T : hS), j + d = s - 1 → hLay T → T.2.1 53 = f → T.2.1 51 3 = nI s → hvC T (lg f g j) → ∃ T', hFr T T' (fun p => p = 51 ∨ p = 54 ∨ p = 55) ∧ (∀ i, i ≠ 6 → T'.2.1 51 i = T.2.1 51 i) ∧ hvC T' (lg f g (s - 1)) ∧ Rn hc_X2_pour 80 [some (.inr (some (2, 51))), some (.inr (some (7, 8))), some (.inl (nI (j + 1)))] [] T (none, T') := by
  intro d
  induction d with
  | zero =>
    intro j T hj hL h53 h3 ho
    have e : j = s - 1 := by omega
    subst e
    refine ⟨T, hFr.rf _ _, fun _ _ => rfl, ho, ?_⟩
    iterate 4 refine r_step rfl rfl ?_
    rw [h3]
    refine r_i_ge (fun _ => r_retn rfl rfl) (fun q => absurd (nI_le (by omega) (by omega)) q)
  | succ d ih =>
    intro j T hj hL h53 h3 ho
    have bA := hf (j + 1) (by omega)
    have bB := hf j (by omega)
    obtain ⟨T1, a1, a2, a3, a4⟩ := e_addHalves (nab (f (j + 1)) (f j)) 1 (nab_lt bA bB) (by decide) T (lg f g j) hL ho (by rw [lg_len]; omega)
    obtain ⟨T2, b1, b2, b3, b4⟩ := ih (j + 1) T1 (by omega) (hL.fr a2) (by rw [a2.2.2 53 (by decide)]; exact h53) (by rw [a3 3 (by decide)]; exact h3) a4
    refine ⟨T2, a2.trans b1, fun i hi => (b2 i hi).trans (a3 i hi), b3, ?_⟩
    iterate 4 refine r_step rfl rfl ?_
    rw [h3]
    refine r_i_ge (fun q => absurd q (nI_ge (by omega) (by omega))) (fun _ => ?_)
    iterate 3 refine r_step rfl rfl ?_
    refine r_i_ge (fun q => absurd q (lt_lit (N := 40) rfl (by decide) (by omega))) (fun _ => ?_)
    iterate 2 refine r_step rfl rfl ?_
    refine r_getr rfl (rv_51_2 hL) ?_
    refine r_step rfl rfl ?_
    refine r_iald rfl (j + 1) (ti (by omega)) ⟨⟨by decide, by decide⟩, by show j + 1 < 40; omega⟩ ?_
    refine r_step rfl rfl ?_
    refine r_getr rfl (rv_51_2 hL) ?_
    iterate 3 refine r_step rfl rfl ?_
    refine r_iald rfl j (by rw [nI_pred]; exact ti (by omega)) ⟨⟨by decide, by decide⟩, by show j < 40; omega⟩ ?_
    refine r_step rfl rfl ?_
    rw [h53]
    refine r_call rfl rfl (e_abs _ _) ?_
    rw [nab_abs bA bB]
    refine r_step rfl rfl ?_
    refine r_callv rfl rfl a1 ?_
    iterate 2 refine r_step rfl rfl ?_
    show Rn hc_X2_pour 80 [some (.inr (some (2, 51))), some (.inr (some (7, 8))), some (.inl (nI (j + 1) + 1))] [] _ _
    rw [nI_s1]
    exact b4
end
section
/-! The class pours, all of it; what it answers then. -/
theorem inn_mem (u : Nat → Int32) {y : Int32} : ∀ i, y ∈ inn u i → ∃ j, j < i ∧ y = u j
  | 0, h => (nomatch h)
  | 1, h => ⟨0, by omega, List.mem_singleton.1 h⟩
  | i + 2, h => by
    rw [inn_s] at h
    have go : y ∈ inn u (i + 1) → ∃ j, j < i + 2 ∧ y = u j := fun h => by
      obtain ⟨j, h1, h2⟩ := inn_mem u (i + 1) h
      exact ⟨j, by omega, h2⟩
    by_cases c : (u i < u (i + 1)) ↔ (u (i + 1) < u (i + 2))
    · rw [if_pos c] at h; exact go h
    · rw [if_neg c] at h
      rcases List.mem_cons.1 h with e | h
      · exact ⟨i + 1, by omega, e⟩
      · exact go h
theorem tn_bt {u : Nat → Int32} {n : Nat} (h : ∀ j, j < n → bt (u j) 0 999) : ∀ y ∈ tn u n, bt y 0 999 := by
  intro y hy
  match n, h, hy with
  | n + 1, h, hy =>
    rcases List.mem_cons.1 hy with e | hy
    · rw [e]; exact h n (by omega)
    · obtain ⟨j, h1, h2⟩ := inn_mem u n hy
      rw [h2]; exact h j (by omega)
theorem uP_bt {x : Nat → Int32} : ∀ k u n, (∀ i, i < k → bt (x i) 0 999) → (∀ j, j < n → bt (u j) 0 999) → ∀ j, j < (uP x k u n).2 → bt ((uP x k u n).1 j) 0 999
  | 0, u, n, _, h, j, hj => h j hj
  | k + 1, u, n, hx, h, j, hj => by
    rw [uP_s] at hj ⊢
    refine uP_bt k _ _ (fun i hi => hx i (by omega)) ?_ j hj
    intro i
    unfold uS
    by_cases c : ¬ n = 0 ∧ u (n - 1) = x k
    · rw [if_pos c]; exact h i
    · rw [if_neg c]
      intro hi
      have hi2 : i < n + 1 := hi
      show bt (upd u n (x k) i) 0 999
      by_cases f : i = n
      · rw [f, pk_us]; exact hx k (by omega)
      · rw [pk_un f]; exact h i (by omega)
/-- what is known after the rain, on the class's side: TL the turns, and the log of the halves -/
def lgOf (t f : Nat → Int32) (n : Nat) : List (Nat × Nat) := lg f (po t n).2.2 ((po t n).1.length - 1)
set_option maxHeartbeats 4000000 in
set_option maxRecDepth 100000 in
theorem e_pour (z : Nat) (hz : z ≤ 40) (x u0 : Nat → Int32) (hx : ∀ i, i < z → bt (x i) 0 999) (S : hS) (hL : hLay S) (hs : spd S z x) : ∃ S' t f, Ev 123 [.inr (some (2, 51)), .inr (some (7, 8))] S (none, S') ∧ hFr S S' (fun p => 51 ≤ p ∧ p ≤ 55) ∧ rL t (tn (uP x z u0 0).1 (uP x z u0 0).2) ∧ S'.2.1 51 1 = nI (tn (uP x z u0 0).1 (uP x z u0 0).2).length ∧ rL f (po t (tn (uP x z u0 0).1 (uP x z u0 0).2).length).1 ∧ S'.2.1 51 7 = nI (po t (tn (uP x z u0 0).1 (uP x z u0 0).2).length).2.1 ∧ hvC S' (lgOf t f (tn (uP x z u0 0).1 (uP x z u0 0).2).length) := by
  have hbt := tn_bt (uP_bt z u0 0 hx (fun j hj => absurd hj (by omega)))
  have hlen := Nat.le_trans (tn_len (uP x z u0 0).1 (uP x z u0 0).2) (uP_n x z u0 0)
  obtain ⟨nn, n1, n2, n3, n4⟩ := hs
  have E : ∀ p, p ≠ 51 → (hPut (hPut (hPut (hPut S 51 1 0) 51 3 0) 51 6 0) 51 7 0).2.1 p = S.2.1 p := fun p hp => by rw [hPut_ne hp, hPut_ne hp, hPut_ne hp, hPut_ne hp]
  have e1 : (hPut (hPut (hPut (hPut S 51 1 0) 51 3 0) 51 6 0) 51 7 0).2.1 51 1 = 0 := by rw [hPut_at, pk_un (by decide), hPut_at, pk_un (by decide), hPut_at, pk_un (by decide), hPut_at, pk_us]
  have e3 : (hPut (hPut (hPut (hPut S 51 1 0) 51 3 0) 51 6 0) 51 7 0).2.1 51 3 = 0 := by rw [hPut_at, pk_un (by decide), hPut_at, pk_un (by decide), hPut_at, pk_us]
  have e6 : (hPut (hPut (hPut (hPut S 51 1 0) 51 3 0) 51 6 0) 51 7 0).2.1 51 6 = 0 := by rw [hPut_at, pk_un (by decide), hPut_at, pk_us]
  have e7 : (hPut (hPut (hPut (hPut S 51 1 0) 51 3 0) 51 6 0) 51 7 0).2.1 51 7 = 0 := by rw [hPut_at, pk_us]
  have fr0 : hFr S (hPut (hPut (hPut (hPut S 51 1 0) 51 3 0) 51 6 0) 51 7 0) (fun p => 51 ≤ p ∧ p ≤ 55) := (((hFr_put S 51 1 0 ⟨by decide, by decide⟩).trans (hFr_put _ _ _ _ ⟨by decide, by decide⟩)).trans (hFr_put _ _ _ _ ⟨by decide, by decide⟩)).trans (hFr_put _ _ _ _ ⟨by decide, by decide⟩)
  have hL0 := hL.fr fr0
  have start : ∀ o, Rn hc_X2_pour 27 [some (.inr (some (2, 51))), some (.inr (some (7, 8))), some (.inl (nI z + -1))] [] (hPut (hPut (hPut (hPut S 51 1 0) 51 3 0) 51 6 0) 51 7 0) o → Ev 123 [.inr (some (2, 51)), .inr (some (7, 8))] S o := by
    intro o k
    show Rn hc_X2_pour 0 [some (.inr (some (2, 51))), some (.inr (some (7, 8))), none] [] S _
    iterate 14 refine r_step rfl rfl ?_
    rw [E 8 (by decide), n3]
    iterate 2 refine r_step rfl rfl ?_
    rw [show nI z - 1 = nI z + -1 from Int32.sub_eq_add_neg ..]
    refine r_step rfl rfl ?_
    exact k
  generalize hPut (hPut (hPut (hPut S 51 1 0) 51 3 0) 51 6 0) 51 7 0 = S0 at *
  obtain ⟨S1, a1, a2, a3, a4⟩ := pour1 z hz x z u0 0 S0 (by omega) (Nat.le_refl _) hL0 ⟨nn, n1, by rw [E 8 (by decide)]; exact n2, by rw [E 8 (by decide)]; exact n3, by rw [E 9 (by decide)]; exact n4⟩ ⟨trivial, e1⟩
  generalize hTL : tn (uP x z u0 0).1 (uP x z u0 0).2 = TL at *
  have hL1 := hL0.fr a1
  obtain ⟨c1, c2⟩ := a3
  rw [hTL] at c1 c2
  have ht : ∀ i, i < TL.length → bt (S1.2.1 52 i) 0 999 := fun i hi => hbt _ (rL_mem c1 i hi)
  obtain ⟨S2, b1, b2, b3, b4⟩ := pour2 (S1.2.1 52) TL.length (by omega) ht TL.length 0 S1 (by omega) hL1 rfl c2 ⟨trivial, by rw [a2 3 (by decide)]; exact e3, by rw [a2 7 (by decide)]; exact e7, fun _ => 0, by rw [a2 6 (by decide)]; exact e6, fun p hp => absurd hp (Nat.not_lt_zero p), fun p q hp => absurd hp (Nat.not_lt_zero p), fun n hn => absurd hn (Nat.not_lt_zero 0), rfl⟩
  have hL2 := hL1.fr b1
  have hg := gd_po TL.length ht
  generalize hP : po (S1.2.1 52) TL.length = P at *
  obtain ⟨g1, g2, g3, g4, -⟩ := hg
  obtain ⟨d1, d2, d3, d4⟩ := b3
  obtain ⟨S3, f1, f2, f3, f4⟩ := pour3 (S2.2.1 53) P.2.2 P.1.length (fun i hi => g1 _ (rL_mem d1 i hi)) (by omega) (P.1.length - 1) 0 S2 (by omega) hL2 rfl d2 d4
  refine ⟨S3, S1.2.1 52, S2.2.1 53, start _ (a4 _ ?_), ?_, c1, ?_, ?_, ?_, ?_⟩
  · iterate 2 refine r_step rfl rfl ?_
    refine b4 _ ?_
    iterate 2 refine r_step rfl rfl ?_
    exact f4
  · exact ((fr0.trans (a1.mono (fun p hp => by omega))).trans (b1.mono (fun p hp => by omega))).trans (f1.mono (fun p hp => by omega))
  · rw [f2 1 (by decide), b2 1 (by decide) (by decide) (by decide)]; exact c2
  · rw [hP]; exact d1
  · rw [hP, f2 7 (by decide)]; exact d3
  · unfold lgOf
    rw [hP]
    exact f3
theorem e_hvOf (n : Nat) (hn : n < 1000) (S : hS) (g : List (Nat × Nat)) (hL : hLay S) (h : hvC S g) (hg : g.length ≤ 40) : Ev 73 [.inr (some (2, 51)), .inl (nI n)] S (some (nI (cnt g n)), S) := by
  obtain ⟨d, h6, hd, hi, hs, ht⟩ := h
  have kl := kd_le g
  obtain ⟨p, b1, b2, b3, b4⟩ := e_placeOf n hn d (kd g) (by omega) S hL h6 (fun p hp => ⟨(hd p hp).1, (hd p hp).2.1⟩)
  show Rn hc_X2_halvesOf 0 [some (.inr (some (2, 51))), some (.inl (nI n)), none] [] S _
  iterate 2 refine r_step rfl rfl ?_
  refine r_call rfl rfl b4 ?_
  iterate 5 refine r_step rfl rfl ?_
  rw [h6]
  by_cases c : p < kd g
  · refine r_i_ge (fun q => absurd q (nI_ge c (by omega))) (fun _ => ?_)
    refine r_step rfl rfl ?_
    refine r_getr rfl (rv_51_5 hL) ?_
    refine r_step rfl rfl ?_
    refine r_iald rfl p (ti (by omega)) ⟨⟨by decide, by decide⟩, by show p < 40; omega⟩ ?_
    refine r_step rfl rfl ?_
    exact r_reti rfl (by rw [(hd p c).2.2.1, b3 c]) rfl
  · refine r_i_ge (fun _ => ?_) (fun q => absurd (nI_le (by omega) (by omega)) q)
    refine r_step rfl rfl ?_
    refine r_reti rfl ?_ rfl
    have c0 : cnt g n = 0 := by
      by_cases f : cnt g n = 0
      · exact f
      · obtain ⟨q, q1, q2⟩ := hs n (by omega)
        exact absurd q2 (b2 q (by omega))
    rw [c0]; rfl
theorem e_allHalves (S : hS) (g : List (Nat × Nat)) (hL : hLay S) (h : hvC S g) (hg : g.length ≤ 40) : Ev 27 [.inr (some (2, 51))] S (some (nI (tw g)), S) := by
  obtain ⟨d, h6, hd, hi, hs, ht⟩ := h
  have kl := kd_le g
  have lp : ∀ c p, p + c = kd g → Rn hc_X2_allHalves 4 [some (.inr (some (2, 51))), some (.inl (nI (sumN (fun p => cnt g (d p)) p))), some (.inl (nI p))] [] S (some (nI (tw g)), S) := by
    intro c
    induction c with
    | zero =>
      intro p hp
      have : p = kd g := by omega
      subst this
      iterate 4 refine r_step rfl rfl ?_
      rw [h6]
      refine r_i_ge (fun _ => ?_) (fun q => absurd (nI_le (Nat.le_refl _) (by omega)) q)
      refine r_step rfl rfl ?_
      exact r_reti rfl (by rw [ht]) rfl
    | succ c ih =>
      intro p hp
      have k := ih (p + 1) (by omega)
      iterate 4 refine r_step rfl rfl ?_
      rw [h6]
      refine r_i_ge (fun q => absurd q (nI_ge (by omega) (by omega))) (fun _ => ?_)
      iterate 2 refine r_step rfl rfl ?_
      refine r_getr rfl (rv_51_5 hL) ?_
      refine r_step rfl rfl ?_
      refine r_iald rfl p (ti (by omega)) ⟨⟨by decide, by decide⟩, by show p < 40; omega⟩ ?_
      rw [(hd p (by omega)).2.2.1]
      iterate 2 refine r_step rfl rfl ?_
      rw [nI_add]
      iterate 2 refine r_step rfl rfl ?_
      show Rn hc_X2_allHalves 4 [some (.inr (some (2, 51))), some (.inl (nI (sumN (fun p => cnt g (d p)) p + cnt g (d p)))), some (.inl (nI p + 1))] [] _ _
      rw [nI_s1]
      exact k
  show Rn hc_X2_allHalves 0 [some (.inr (some (2, 51))), none, none] [] S _
  iterate 4 refine r_step rfl rfl ?_
  exact lp (kd g) 0 (by omega)
def mxP (g : List (Nat × Nat)) (r : Int32) : Prop := (r = -9 ∧ ∀ n, cnt g n = 0) ∨ ∃ n, n < 1000 ∧ r = nI n ∧ 0 < cnt g n ∧ ∀ m, 0 < cnt g m → m ≤ n
theorem mxP_eq {g : List (Nat × Nat)} {r s : Int32} (h : mxP g r) (k : mxP g s) : r = s := by
  rcases h with ⟨h1, h2⟩ | ⟨n, h1, h2, h3, h4⟩
  · rcases k with ⟨k1, k2⟩ | ⟨m, k1, k2, k3, k4⟩
    · rw [h1, k1]
    · exact absurd k3 (by rw [h2 m]; omega)
  · rcases k with ⟨k1, k2⟩ | ⟨m, k1, k2, k3, k4⟩
    · exact absurd h3 (by rw [k2 n]; omega)
    · have a := h4 m k3
      have b := k4 n h3
      rw [h2, k2, show n = m by omega]
theorem e_greatest (S : hS) (g : List (Nat × Nat)) (hL : hLay S) (h : hvC S g) (hg : g.length ≤ 40) : ∃ r, mxP g r ∧ Ev 72 [.inr (some (2, 51))] S (some r, S) := by
  obtain ⟨d, h6, hd, hi, hs, ht⟩ := h
  have kl := kd_le g
  have lp : ∀ c p v, p + c = kd g → ((p = 0 ∧ v = -9) ∨ ∃ q, q < p ∧ v = nI (d q) ∧ ∀ q', q' < p → d q' ≤ d q) → ∃ r, mxP g r ∧ Rn hc_X2_greatestDifference 5 [some (.inr (some (2, 51))), some (.inl v), some (.inl (nI p))] [] S (some r, S) := by
    intro c
    induction c with
    | zero =>
      intro p v hp hv
      have : p = kd g := by omega
      subst this
      refine ⟨v, ?_, ?_⟩
      · rcases hv with ⟨h1, h2⟩ | ⟨q, q1, q2, q3⟩
        · refine Or.inl ⟨h2, fun n => ?_⟩
          by_cases f : cnt g n = 0
          · exact f
          · obtain ⟨q, q1, q2⟩ := hs n (by omega)
            omega
        · refine Or.inr ⟨d q, (hd q q1).1, q2, (hd q q1).2.2.2, fun m hm => ?_⟩
          obtain ⟨q', e1, e2⟩ := hs m hm
          rw [← e2]
          exact q3 q' e1
      · iterate 4 refine r_step rfl rfl ?_
        rw [h6]
        refine r_i_ge (fun _ => ?_) (fun q => absurd (nI_le (Nat.le_refl _) (by omega)) q)
        refine r_step rfl rfl ?_
        exact r_reti rfl rfl rfl
    | succ c ih =>
      intro p v hp hv
      obtain ⟨d1, d2, -⟩ := hd p (by omega)
      have jm : ((p + 1 = 0 ∧ jmax v (nI (d p)) = -9) ∨ ∃ q, q < p + 1 ∧ jmax v (nI (d p)) = nI (d q) ∧ ∀ q', q' < p + 1 → d q' ≤ d q) := by
        refine Or.inr ?_
        rcases hv with ⟨h1, h2⟩ | ⟨q, q1, q2, q3⟩
        · refine ⟨p, by omega, ?_, fun q' hq => by rw [show q' = p by omega]; exact Nat.le_refl _⟩
          unfold jmax
          rw [h2]
          by_cases f : (-9 : Int32) < nI (d p)
          · rw [if_pos f]
          · exact absurd (by rw [i_lt, ti (by omega), show (-9 : Int32).toInt = -9 from rfl]; omega) f
        · unfold jmax
          rw [q2]
          by_cases f : nI (d q) < nI (d p)
          · rw [if_pos f]
            rw [nle_lit (by omega) (by have := (hd q (by omega)).1; omega)] at f
            refine ⟨p, by omega, rfl, fun q' hq => ?_⟩
            by_cases e : q' = p
            · rw [e]; exact Nat.le_refl _
            · have := q3 q' (by omega); omega
          · rw [if_neg f]
            rw [nle_lit (by omega) (by have := (hd q (by omega)).1; omega)] at f
            refine ⟨q, by omega, rfl, fun q' hq => ?_⟩
            by_cases e : q' = p
            · rw [e]; omega
            · exact q3 q' (by omega)
      obtain ⟨r, b1, b2⟩ := ih (p + 1) (jmax v (nI (d p))) (by omega) jm
      refine ⟨r, b1, ?_⟩
      iterate 4 refine r_step rfl rfl ?_
      rw [h6]
      refine r_i_ge (fun q => absurd q (nI_ge (by omega) (by omega))) (fun _ => ?_)
      iterate 2 refine r_step rfl rfl ?_
      refine r_getr rfl (rv_51_4 hL) ?_
      refine r_step rfl rfl ?_
      refine r_iald rfl p (ti (by omega)) ⟨⟨by decide, by decide⟩, by show p < 40; omega⟩ ?_
      rw [d2]
      refine r_call rfl rfl (e_max _ _ _) ?_
      iterate 3 refine r_step rfl rfl ?_
      show Rn hc_X2_greatestDifference 5 [some (.inr (some (2, 51))), some (.inl (jmax v (nI (d p)))), some (.inl (nI p + 1))] [] _ _
      rw [nI_s1]
      exact b2
  obtain ⟨r, b1, b2⟩ := lp (kd g) 0 (-9) (by omega) (Or.inl ⟨rfl, rfl⟩)
  refine ⟨r, b1, ?_⟩
  show Rn hc_X2_greatestDifference 0 [some (.inr (some (2, 51))), none, none] [] S _
  iterate 4 refine r_step rfl rfl ?_
  exact b2
end
section
/-! The model's rain. -/
def hvM (S : hS) (g : List (Nat × Nat)) : Prop := ∀ n, n < 1000 → S.2.1 69 n = nI (cnt g n)
theorem hvM.add {S : hS} {g : List (Nat × Nat)} (h : hvM S g) {n : Nat} (w : Nat) {T : hS} (hn : n < 1000) (e : T.2.1 69 = upd (S.2.1 69) n (S.2.1 69 n + nI w)) : hvM T ((n, w) :: g) := by
  intro m hm
  rw [e, cnt_s]
  by_cases c : m = n
  · subst c
    rw [pk_us, h m hm, nI_add, if_pos rfl, Nat.add_comm]
  · rw [pk_un c, h m hm, if_neg (fun q => c q.symm), Nat.zero_add]
def mrOk (S : hS) (z : List Int32 × Nat × List (Nat × Nat)) : Prop := rL (S.2.1 68) z.1 ∧ S.2.1 57 20 = nI z.1.length ∧ S.2.1 57 22 = nI z.2.1 ∧ hvM S z.2.2
theorem e_closes0 (S : hS) (n : Nat) (hs : S.2.1 57 20 = nI n) (hn : n < 4) : Ev 58 [.inr (some (10, 57))] S (some 0, S) := by
  show Rn hc_X10_closes 0 [some (.inr (some (10, 57))), none] [] S _
  iterate 4 refine r_step rfl rfl ?_
  rw [hs]
  refine r_i_ge (fun q => absurd q (lt_lit (N := 4) rfl (by decide) hn)) (fun _ => ?_)
  refine r_step rfl rfl ?_
  exact r_retz rfl (Or.inl rfl) rfl rfl
theorem e_closes (x3 x2 x1 x0 : Int32) (R : List Int32) (S : hS) (hL : hLay S) (hR : rL (S.2.1 68) (x3 :: x2 :: x1 :: x0 :: R)) (hs : S.2.1 57 20 = nI (R.length + 4)) (hl : R.length + 4 ≤ 40) (b3 : bt x3 0 999) (b2 : bt x2 0 999) (b1 : bt x1 0 999) (b0 : bt x0 0 999) : Ev 58 [.inr (some (10, 57))] S (some (if nab x2 x1 ≤ nab x1 x0 ∧ nab x2 x1 ≤ nab x3 x2 then 1 else 0), S) := by
  obtain ⟨r3, r2, r1, r0, -⟩ := hR
  have q3 : S.2.1 68 (R.length + 3) = x3 := r3
  have q2 : S.2.1 68 (R.length + 2) = x2 := r2
  have q1 : S.2.1 68 (R.length + 1) = x1 := r1
  show Rn hc_X10_closes 0 [some (.inr (some (10, 57))), none] [] S _
  iterate 4 refine r_step rfl rfl ?_
  rw [hs]
  refine r_i_ge (fun _ => ?_) (fun q => absurd (nI_le (a := 4) (by omega) (by omega)) q)
  refine r_step rfl rfl ?_
  refine r_getr rfl (rv_57_19 hL) ?_
  iterate 4 refine r_step rfl rfl ?_
  refine r_iald rfl (R.length + 1) (ix (R.length + 1) hs (b := 3) rfl (by omega) (by omega)) ⟨⟨by decide, by decide⟩, by show R.length + 1 < 40; omega⟩ ?_
  refine r_step rfl rfl ?_
  refine r_getr rfl (rv_57_19 hL) ?_
  iterate 4 refine r_step rfl rfl ?_
  refine r_iald rfl (R.length + 2) (ix (R.length + 2) hs (b := 2) rfl (by omega) (by omega)) ⟨⟨by decide, by decide⟩, by show R.length + 2 < 40; omega⟩ ?_
  rw [q1, q2]
  refine r_call rfl rfl (e_away _ _ _) ?_
  rw [nab_away b1 b2, nab_sy x1 x2]
  iterate 3 refine r_step rfl rfl ?_
  refine r_getr rfl (rv_57_19 hL) ?_
  iterate 4 refine r_step rfl rfl ?_
  refine r_iald rfl R.length (ix R.length hs (b := 4) rfl (by omega) (by omega)) ⟨⟨by decide, by decide⟩, by show R.length < 40; omega⟩ ?_
  refine r_step rfl rfl ?_
  refine r_getr rfl (rv_57_19 hL) ?_
  iterate 4 refine r_step rfl rfl ?_
  refine r_iald rfl (R.length + 1) (ix (R.length + 1) hs (b := 3) rfl (by omega) (by omega)) ⟨⟨by decide, by decide⟩, by show R.length + 1 < 40; omega⟩ ?_
  rw [q1, r0]
  refine r_call rfl rfl (e_away _ _ _) ?_
  rw [nab_away b0 b1, nab_sy x0 x1]
  have l1 := nab_lt b1 b0
  have l2 := nab_lt b2 b1
  have l3 := nab_lt b3 b2
  have out : ¬ (nab x2 x1 ≤ nab x1 x0 ∧ nab x2 x1 ≤ nab x3 x2) → Rn hc_X10_closes 98 [some (.inr (some (10, 57))), some (.inl (nI (nab x2 x1)))] [] S (some (if nab x2 x1 ≤ nab x1 x0 ∧ nab x2 x1 ≤ nab x3 x2 then 1 else 0), S) := by
    intro c
    rw [if_neg c]
    refine r_step rfl rfl ?_
    exact r_retz rfl (Or.inl rfl) rfl rfl
  refine r_step rfl rfl ?_
  refine r_i_gt (fun q => out (fun w => by rw [nle_lit (by omega) (by omega)] at q; omega)) (fun q => ?_)
  iterate 2 refine r_step rfl rfl ?_
  refine r_getr rfl (rv_57_19 hL) ?_
  iterate 4 refine r_step rfl rfl ?_
  refine r_iald rfl (R.length + 2) (ix (R.length + 2) hs (b := 2) rfl (by omega) (by omega)) ⟨⟨by decide, by decide⟩, by show R.length + 2 < 40; omega⟩ ?_
  refine r_step rfl rfl ?_
  refine r_getr rfl (rv_57_19 hL) ?_
  iterate 4 refine r_step rfl rfl ?_
  refine r_iald rfl (R.length + 3) (ix (R.length + 3) hs (b := 1) rfl (by omega) (by omega)) ⟨⟨by decide, by decide⟩, by show R.length + 3 < 40; omega⟩ ?_
  rw [q2, q3]
  refine r_call rfl rfl (e_away _ _ _) ?_
  rw [nab_away b2 b3, nab_sy x2 x3]
  refine r_step rfl rfl ?_
  refine r_i_gt (fun q => out (fun w => by rw [nle_lit (by omega) (by omega)] at q; omega)) (fun p => ?_)
  rw [nle_lit (by omega) (by omega)] at p q
  rw [if_pos ⟨by omega, by omega⟩]
  iterate 2 refine r_step rfl rfl ?_
  exact r_retz rfl (Or.inr rfl) rfl rfl
set_option maxHeartbeats 4000000 in
set_option maxRecDepth 100000 in
theorem ml_l (l : Option hV) (i : Nat) (hi : i ≤ 40) : ∀ (d : Nat) (R : List Int32) (c : Nat) (g : List (Nat × Nat)) (T : hS), R.length ≤ d + 3 → gd i (R, c, g) → hLay T → mrOk T (R, c, g) → ∃ T', hFr T T' (fun p => p = 57 ∨ p = 68 ∨ p = 69) ∧ (∀ j, j ≠ 20 → j ≠ 22 → T'.2.1 57 j = T.2.1 57 j) ∧ mrOk T' (cl d R c g) ∧ (∀ o, Rn hc_X10_rains 157 [some (.inr (some (10, 57))), l] [] T' o → Rn hc_X10_rains 71 [some (.inr (some (10, 57))), l] [] T o) := by
  intro d
  have few : ∀ (R : List Int32) (c : Nat) (g : List (Nat × Nat)) (T : hS), R.length < 4 → mrOk T (R, c, g) → (∀ o, Rn hc_X10_rains 157 [some (.inr (some (10, 57))), l] [] T o → Rn hc_X10_rains 71 [some (.inr (some (10, 57))), l] [] T o) := by
    intro R c g T hl ho o k
    refine r_step rfl rfl ?_
    refine r_call rfl rfl (e_closes0 T R.length ho.2.1 hl) ?_
    refine r_step rfl rfl ?_
    exact k
  induction d with
  | zero =>
    intro R c g T hR hg hL ho
    refine ⟨T, hFr.rf _ _, fun _ _ _ => rfl, ?_, few R c g T (by omega) ho⟩
    unfold cl
    exact ho
  | succ d ih =>
    intro R c g T hR hg hL ho
    match R, hR, hg, ho with
    | [], hR, hg, ho => exact ⟨T, hFr.rf _ _, fun _ _ _ => rfl, ho, few [] c g T (show 0 < 4 by omega) ho⟩
    | [y0], hR, hg, ho => exact ⟨T, hFr.rf _ _, fun _ _ _ => rfl, ho, few [y0] c g T (show 1 < 4 by omega) ho⟩
    | [y0, y1], hR, hg, ho => exact ⟨T, hFr.rf _ _, fun _ _ _ => rfl, ho, few [y0, y1] c g T (show 2 < 4 by omega) ho⟩
    | [y0, y1, y2], hR, hg, ho => exact ⟨T, hFr.rf _ _, fun _ _ _ => rfl, ho, few [y0, y1, y2] c g T (show 3 < 4 by omega) ho⟩
    | x3 :: x2 :: x1 :: x0 :: R, hR, hg, ho =>
      obtain ⟨o1, o2, o3, o4⟩ := ho
      have hs : T.2.1 57 20 = nI (R.length + 4) := o2
      have hc7 : T.2.1 57 22 = nI c := o3
      have hl : R.length + 4 + 2 * c = i := hg.2.1
      have hR2 : R.length + 4 ≤ d + 1 + 3 := hR
      have m3 := hg.1 x3 List.mem_cons_self
      have m2 := hg.1 x2 (List.mem_cons_of_mem _ List.mem_cons_self)
      have m1 := hg.1 x1 (List.mem_cons_of_mem _ (List.mem_cons_of_mem _ List.mem_cons_self))
      have m0 := hg.1 x0 (List.mem_cons_of_mem _ (List.mem_cons_of_mem _ (List.mem_cons_of_mem _ List.mem_cons_self)))
      have ins := e_closes x3 x2 x1 x0 R T hL o1 hs (by omega) m3 m2 m1 m0
      have start : ∀ o, Rn hc_X10_rains 75 [some (.inr (some (10, 57))), l] [.inl (if nab x2 x1 ≤ nab x1 x0 ∧ nab x2 x1 ≤ nab x3 x2 then 1 else 0)] T o → Rn hc_X10_rains 71 [some (.inr (some (10, 57))), l] [] T o := by
        intro o k
        refine r_step rfl rfl ?_
        exact r_call rfl rfl ins k
      rw [cl_s]
      by_cases k : nab x2 x1 ≤ nab x1 x0 ∧ nab x2 x1 ≤ nab x3 x2
      · rw [if_pos k] at start ⊢
        obtain ⟨r3, r2, r1, r0, rr⟩ := o1
        have q3 : T.2.1 68 (R.length + 3) = x3 := r3
        have q2 : T.2.1 68 (R.length + 2) = x2 := r2
        have q1 : T.2.1 68 (R.length + 1) = x1 := r1
        have nl := nab_lt m2 m1
        have hL1 : hLay (hPut T 69 (nab x2 x1) (T.2.1 69 (nab x2 x1) + nI 2)) := hL.put _ _ _
        have hL2 : hLay (hPut (hPut T 69 (nab x2 x1) (T.2.1 69 (nab x2 x1) + nI 2)) 57 22 (nI (c + 1))) := hL1.put _ _ _
        have p20 : (hPut (hPut T 69 (nab x2 x1) (T.2.1 69 (nab x2 x1) + nI 2)) 57 22 (nI (c + 1))).2.1 57 20 = nI (R.length + 4) := by rw [hPut_at, pk_un (by decide), hPut_ne (by decide)]; exact hs
        have p22 : (hPut (hPut T 69 (nab x2 x1) (T.2.1 69 (nab x2 x1) + nI 2)) 57 22 (nI (c + 1))).2.1 57 22 = nI (c + 1) := by rw [hPut_at, pk_us]
        have p68 : (hPut (hPut T 69 (nab x2 x1) (T.2.1 69 (nab x2 x1) + nI 2)) 57 22 (nI (c + 1))).2.1 68 = T.2.1 68 := by rw [hPut_ne (by decide), hPut_ne (by decide)]
        have p69 : (hPut (hPut T 69 (nab x2 x1) (T.2.1 69 (nab x2 x1) + nI 2)) 57 22 (nI (c + 1))).2.1 69 = upd (T.2.1 69) (nab x2 x1) (T.2.1 69 (nab x2 x1) + nI 2) := by rw [hPut_ne (by decide), hPut_at]
        have p57 : ∀ j, j ≠ 22 → (hPut (hPut T 69 (nab x2 x1) (T.2.1 69 (nab x2 x1) + nI 2)) 57 22 (nI (c + 1))).2.1 57 j = T.2.1 57 j := fun j hj => by rw [hPut_at, pk_un hj, hPut_ne (by decide)]
        have fr : hFr T (hPut (hPut T 69 (nab x2 x1) (T.2.1 69 (nab x2 x1) + nI 2)) 57 22 (nI (c + 1))) (fun p => p = 57 ∨ p = 68 ∨ p = 69) := (hFr_put _ _ _ _ (Or.inr (Or.inr rfl))).trans (hFr_put _ _ _ _ (Or.inl rfl))
        have wlk : ∀ o, Rn hc_X10_rains 122 [some (.inr (some (10, 57))), l] [] (hPut (hPut T 69 (nab x2 x1) (T.2.1 69 (nab x2 x1) + nI 2)) 57 22 (nI (c + 1))) o → Rn hc_X10_rains 71 [some (.inr (some (10, 57))), l] [] T o := by
          intro o kk
          refine start _ ?_
          iterate 2 refine r_step rfl rfl ?_
          refine r_getr rfl (rv_57_21 hL) ?_
          refine r_step rfl rfl ?_
          refine r_getr rfl (rv_57_19 hL) ?_
          iterate 4 refine r_step rfl rfl ?_
          refine r_iald rfl (R.length + 1) (ix (R.length + 1) hs (b := 3) rfl (by omega) (by omega)) ⟨⟨by decide, by decide⟩, by show R.length + 1 < 40; omega⟩ ?_
          refine r_step rfl rfl ?_
          refine r_getr rfl (rv_57_19 hL) ?_
          iterate 4 refine r_step rfl rfl ?_
          refine r_iald rfl (R.length + 2) (ix (R.length + 2) hs (b := 2) rfl (by omega) (by omega)) ⟨⟨by decide, by decide⟩, by show R.length + 2 < 40; omega⟩ ?_
          rw [q1, q2]
          refine r_call rfl rfl (e_away _ _ _) ?_
          rw [nab_away m1 m2, nab_sy x1 x2]
          refine r_step rfl rfl ?_
          refine r_iald rfl (nab x2 x1) (ti (by omega)) ⟨⟨by decide, by decide⟩, by show nab x2 x1 < 1000; omega⟩ ?_
          iterate 2 refine r_step rfl rfl ?_
          refine r_iast0 rfl (nab x2 x1) (ti (by omega)) ⟨⟨by decide, by decide⟩, by show nab x2 x1 < 1000; omega⟩ ?_
          show Rn hc_X10_rains 112 [some (.inr (some (10, 57))), l] [] (hPut T 69 (nab x2 x1) (T.2.1 69 (nab x2 x1) + nI 2)) o
          iterate 6 refine r_step rfl rfl ?_
          rw [hPut_ne (show 57 ≠ 69 by decide), hc7, nI_s1]
          exact kk
        have hv := hvM.add o4 2 nl p69
        generalize hPut (hPut T 69 (nab x2 x1) (T.2.1 69 (nab x2 x1) + nI 2)) 57 22 (nI (c + 1)) = T1 at *
        have hL3 : hLay (hPut (hPut T1 68 (R.length + 1) x3) 57 20 (nI (R.length + 2))) := (hL2.put _ _ _).put _ _ _
        obtain ⟨T2, b2, b3, b4, b1⟩ := ih (x3 :: x0 :: R) (c + 1) ((nab x2 x1, 2) :: g) (hPut (hPut T1 68 (R.length + 1) x3) 57 20 (nI (R.length + 2))) (by show R.length + 1 + 1 ≤ d + 3; omega) (gd_step hg) hL3 (by
          refine ⟨?_, ?_, ?_, ?_⟩
          · show rL _ (x3 :: x0 :: R)
            rw [hPut_ne (by decide), hPut_at, p68]
            exact ⟨pk_us .., by rw [pk_un (by omega)]; exact r0, rL.up rr (by omega)⟩
          · rw [hPut_at, pk_us]; rfl
          · rw [hPut_at, pk_un (by decide), hPut_ne (by decide)]; exact p22
          · intro n hn
            rw [hPut_ne (by decide), hPut_ne (by decide)]
            exact hv n hn)
        have frP : hFr T1 (hPut (hPut T1 68 (R.length + 1) x3) 57 20 (nI (R.length + 2))) (fun p => p = 57 ∨ p = 68 ∨ p = 69) := (hFr_put _ _ _ _ (Or.inr (Or.inl rfl))).trans (hFr_put _ _ _ _ (Or.inl rfl))
        refine ⟨T2, (fr.trans frP).trans b2, fun j h3 h6 => ?_, b4, fun o kk => wlk _ ?_⟩
        · rw [b3 j h3 h6, hPut_at, pk_un h3, hPut_ne (by decide), p57 j h6]
        · refine r_step rfl rfl ?_
          refine r_getr rfl (rv_57_19 hL2) ?_
          iterate 5 refine r_step rfl rfl ?_
          refine r_getr rfl (rv_57_19 hL2) ?_
          iterate 4 refine r_step rfl rfl ?_
          refine r_iald rfl (R.length + 3) (ix (R.length + 3) p20 (b := 1) rfl (by omega) (by omega)) ⟨⟨by decide, by decide⟩, by show R.length + 3 < 40; omega⟩ ?_
          rw [p68, q3]
          refine r_iast0 rfl (R.length + 1) (ix (R.length + 1) p20 (b := 3) rfl (by omega) (by omega)) ⟨⟨by decide, by decide⟩, by show R.length + 1 < 40; omega⟩ ?_
          iterate 6 refine r_step rfl rfl ?_
          rw [hPut_ne (show 57 ≠ 68 by decide), p20, show nI (R.length + 4) - 2 = nI (R.length + 2) from sub_lit (a := R.length + 2) (b := 2) (x := 2) rfl (by omega)]
          refine r_step rfl rfl ?_
          exact b1 o kk
      · rw [if_neg k] at start ⊢
        refine ⟨T, hFr.rf _ _, fun _ _ _ => rfl, ⟨o1, o2, o3, o4⟩, fun o kk => start _ ?_⟩
        refine r_step rfl rfl ?_
        exact kk
end
section
/-! The model's rain, all of it. -/
theorem rn_clear : ∀ (d k : Nat) (T : hS), k + d = 1000 → hLay T → (∀ i, i < k → T.2.1 69 i = 0) → ∃ w, (∀ i, i < 1000 → w i = 0) ∧ (∀ o, Rn hc_X10_rains 36 [some (.inr (some (10, 57))), some (.inl (nI 1000))] [] (hRow T 69 w) o → Rn hc_X10_rains 16 [some (.inr (some (10, 57))), some (.inl (nI k))] [] T o) := by
  intro d
  induction d with
  | zero =>
    intro k T hk hL h0
    have : k = 1000 := by omega
    subst this
    refine ⟨T.2.1 69, h0, fun o q => ?_⟩
    rw [hRow_self] at q
    iterate 3 refine r_step rfl rfl ?_
    exact r_i_ge (fun _ => q) (fun q => absurd (show (1000 : Int32) ≤ nI 1000 by decide) q)
  | succ d ih =>
    intro k T hk hL h0
    obtain ⟨w, w1, w2⟩ := ih (k + 1) (hPut T 69 k 0) (by omega) (hL.put _ _ _) (fun i hi => by
      rw [hPut_at]
      by_cases c : i = k
      · rw [c, pk_us]
      · rw [pk_un c]; exact h0 i (by omega))
    rw [hPut_eq, hRow_row] at w2
    refine ⟨w, w1, fun o q => ?_⟩
    iterate 3 refine r_step rfl rfl ?_
    refine r_i_ge (fun q => absurd q (lt_lit (N := 1000) rfl (by decide) (by omega))) (fun _ => ?_)
    refine r_step rfl rfl ?_
    refine r_getr rfl (rv_57_21 hL) ?_
    iterate 2 refine r_step rfl rfl ?_
    refine r_iast0 rfl k (ti (by omega)) ⟨⟨by decide, by decide⟩, by show k < 1000; omega⟩ ?_
    iterate 2 refine r_step rfl rfl ?_
    show Rn hc_X10_rains 16 [some (.inr (some (10, 57))), some (.inl (nI k + 1))] [] (hPut T 69 k 0) _
    rw [nI_s1, hPut_eq]
    exact w2 o q
theorem rn_row (t : Nat → Int32) (n : Nat) (hn : n ≤ 40) (ht : ∀ i, i < n → bt (t i) 0 999) : ∀ (d i : Nat) (T : hS), i + d = n → hLay T → T.2.1 67 = t → T.2.1 57 18 = nI n → mrOk T (po t i) → ∃ T', hFr T T' (fun p => p = 57 ∨ p = 68 ∨ p = 69) ∧ (∀ j, j ≠ 20 → j ≠ 22 → T'.2.1 57 j = T.2.1 57 j) ∧ mrOk T' (po t n) ∧ (∀ o, Rn hc_X10_rains 163 [some (.inr (some (10, 57))), some (.inl (nI n))] [] T' o → Rn hc_X10_rains 38 [some (.inr (some (10, 57))), some (.inl (nI i))] [] T o) := by
  intro d
  induction d with
  | zero =>
    intro i T hi hL h67 h1 ho
    have : i = n := by omega
    subst this
    refine ⟨T, hFr.rf _ _, fun _ _ _ => rfl, ho, fun o k => ?_⟩
    iterate 4 refine r_step rfl rfl ?_
    rw [h1]
    exact r_i_ge (fun _ => k) (fun q => absurd (nI_le (Nat.le_refl i) (by omega)) q)
  | succ d ih =>
    intro i T hi hL h67 h1 ho
    have hg := gd_po i (fun j hj => ht j (by omega))
    have hx := ht i (by omega)
    generalize hP : po t i = P at *
    obtain ⟨o1, o2, o3, o4⟩ := ho
    have hl : P.1.length + 2 * P.2.1 = i := hg.2.1
    have hL1 : hLay (hPut (hPut T 68 P.1.length (t i)) 57 20 (nI (P.1.length + 1))) := (hL.put _ _ _).put _ _ _
    obtain ⟨T1, a2, a3, a4, a1⟩ := ml_l (some (.inl (nI i))) (i + 1) (by omega) 40 (t i :: P.1) P.2.1 P.2.2 (hPut (hPut T 68 P.1.length (t i)) 57 20 (nI (P.1.length + 1))) (by show P.1.length + 1 ≤ 40 + 3; omega) (gd_push hg hx) hL1 (by
      refine ⟨?_, ?_, ?_, ?_⟩
      · show rL _ (t i :: P.1)
        rw [hPut_ne (by decide), hPut_at]
        exact o1.push
      · rw [hPut_at, pk_us]; rfl
      · rw [hPut_at, pk_un (by decide), hPut_ne (by decide)]; exact o3
      · intro m hm
        rw [hPut_ne (by decide), hPut_ne (by decide)]
        exact o4 m hm)
    have f1 : hFr T (hPut (hPut T 68 P.1.length (t i)) 57 20 (nI (P.1.length + 1))) (fun p => p = 57 ∨ p = 68 ∨ p = 69) := (hFr_put _ _ _ _ (Or.inr (Or.inl rfl))).trans (hFr_put _ _ _ _ (Or.inl rfl))
    have g1 : ∀ j, j ≠ 20 → (hPut (hPut T 68 P.1.length (t i)) 57 20 (nI (P.1.length + 1))).2.1 57 j = T.2.1 57 j := fun j hj => by rw [hPut_at, pk_un hj, hPut_ne (by decide)]
    obtain ⟨T2, b2, b3, b4, b1⟩ := ih (i + 1) T1 (by omega) (hL1.fr a2) (by rw [a2.2.2 67 (by decide), hPut_ne (by decide), hPut_ne (by decide)]; exact h67) (by rw [a3 18 (by decide) (by decide), g1 18 (by decide)]; exact h1) (by rw [po_s, hP]; exact a4)
    refine ⟨T2, (f1.trans a2).trans b2, fun j h3 h6 => (b3 j h3 h6).trans ((a3 j h3 h6).trans (g1 j h3)), b4, fun o k => ?_⟩
    iterate 4 refine r_step rfl rfl ?_
    rw [h1]
    refine r_i_ge (fun q => absurd q (nI_ge (by omega) (by omega))) (fun _ => ?_)
    refine r_step rfl rfl ?_
    refine r_getr rfl (rv_57_19 hL) ?_
    iterate 3 refine r_step rfl rfl ?_
    refine r_getr rfl (rv_57_17 hL) ?_
    refine r_step rfl rfl ?_
    refine r_iald rfl i (ti (by omega)) ⟨⟨by decide, by decide⟩, by show i < 40; omega⟩ ?_
    rw [h67]
    refine r_iast0 rfl P.1.length (by rw [o2]; exact ti (by omega)) ⟨⟨by decide, by decide⟩, by show P.1.length < 40; omega⟩ ?_
    iterate 6 refine r_step rfl rfl ?_
    rw [hPut_ne (show 57 ≠ 68 by decide), o2, nI_s1]
    refine a1 _ ?_
    iterate 2 refine r_step rfl rfl ?_
    show Rn hc_X10_rains 38 [some (.inr (some (10, 57))), some (.inl (nI i + 1))] [] _ _
    rw [nI_s1]
    exact b1 o k
theorem rn_end (f : Nat → Int32) (g : List (Nat × Nat)) (s : Nat) (hf : ∀ i, i < s → bt (f i) 0 999) (hs : s ≤ 40) : ∀ (d j : Nat) (T : hS), j + d = s - 1 → hLay T → T.2.1 68 = f → T.2.1 57 20 = nI s → hvM T (lg f g j) → ∃ T', hFr T T' (fun p => p = 69) ∧ hvM T' (lg f g (s - 1)) ∧ Rn hc_X10_rains 165 [some (.inr (some (10, 57))), some (.inl (nI (j + 1)))] [] T (none, T') := by
  intro d
  induction d with
  | zero =>
    intro j T hj hL h68 h3 ho
    have e : j = s - 1 := by omega
    subst e
    refine ⟨T, hFr.rf _ _, ho, ?_⟩
    iterate 4 refine r_step rfl rfl ?_
    rw [h3]
    refine r_i_ge (fun _ => r_retn rfl rfl) (fun q => absurd (nI_le (by omega) (by omega)) q)
  | succ d ih =>
    intro j T hj hL h68 h3 ho
    have bA := hf (j + 1) (by omega)
    have bB := hf j (by omega)
    have nl := nab_lt bA bB
    have hv : hvM (hPut T 69 (nab (f (j + 1)) (f j)) (T.2.1 69 (nab (f (j + 1)) (f j)) + nI 1)) (lg f g (j + 1)) := hvM.add ho 1 nl hPut_at
    obtain ⟨T2, b1, b3, b4⟩ := ih (j + 1) (hPut T 69 (nab (f (j + 1)) (f j)) (T.2.1 69 (nab (f (j + 1)) (f j)) + nI 1)) (by omega) (hL.put _ _ _) (by rw [hPut_ne (by decide)]; exact h68) (by rw [hPut_ne (by decide)]; exact h3) hv
    refine ⟨T2, (hFr_put T 69 _ _ (P := fun p => p = 69) rfl).trans b1, b3, ?_⟩
    iterate 4 refine r_step rfl rfl ?_
    rw [h3]
    refine r_i_ge (fun q => absurd q (nI_ge (by omega) (by omega))) (fun _ => ?_)
    refine r_step rfl rfl ?_
    refine r_getr rfl (rv_57_21 hL) ?_
    refine r_step rfl rfl ?_
    refine r_getr rfl (rv_57_19 hL) ?_
    refine r_step rfl rfl ?_
    refine r_iald rfl (j + 1) (ti (by omega)) ⟨⟨by decide, by decide⟩, by show j + 1 < 40; omega⟩ ?_
    refine r_step rfl rfl ?_
    refine r_getr rfl (rv_57_19 hL) ?_
    iterate 3 refine r_step rfl rfl ?_
    refine r_iald rfl j (by rw [nI_pred]; exact ti (by omega)) ⟨⟨by decide, by decide⟩, by show j < 40; omega⟩ ?_
    rw [h68]
    refine r_call rfl rfl (e_away _ _ _) ?_
    rw [nab_away bA bB]
    refine r_step rfl rfl ?_
    refine r_iald rfl (nab (f (j + 1)) (f j)) (ti (by omega)) ⟨⟨by decide, by decide⟩, by show nab (f (j + 1)) (f j) < 1000; omega⟩ ?_
    iterate 2 refine r_step rfl rfl ?_
    refine r_iast0 rfl (nab (f (j + 1)) (f j)) (ti (by omega)) ⟨⟨by decide, by decide⟩, by show nab (f (j + 1)) (f j) < 1000; omega⟩ ?_
    iterate 2 refine r_step rfl rfl ?_
    show Rn hc_X10_rains 165 [some (.inr (some (10, 57))), some (.inl (nI (j + 1) + 1))] [] (hPut T 69 (nab (f (j + 1)) (f j)) (T.2.1 69 (nab (f (j + 1)) (f j)) + nI 1)) _
    rw [nI_s1]
    exact b4
set_option maxHeartbeats 4000000 in
set_option maxRecDepth 100000 in
theorem e_rains (z : Nat) (hz : z ≤ 40) (x : Nat → Int32) (hx : ∀ i, i < z → bt (x i) 0 999) (S : hS) (hL : hLay S) (h18 : S.2.1 58 18 = nI z) (hxs : ∀ i, i < z → S.2.1 58 (19 + i) = x i) : ∃ S' t f, Ev 104 [.inr (some (10, 57))] S (none, S') ∧ hFr S S' (fun p => p = 57 ∨ (66 ≤ p ∧ p ≤ 69)) ∧ (∀ j, j ≠ 18 → j ≠ 20 → j ≠ 22 → S'.2.1 57 j = S.2.1 57 j) ∧ rL t (tn (uP x z (S.2.1 66) 0).1 (uP x z (S.2.1 66) 0).2) ∧ S'.2.1 57 18 = nI (tn (uP x z (S.2.1 66) 0).1 (uP x z (S.2.1 66) 0).2).length ∧ rL f (po t (tn (uP x z (S.2.1 66) 0).1 (uP x z (S.2.1 66) 0).2).length).1 ∧ S'.2.1 57 22 = nI (po t (tn (uP x z (S.2.1 66) 0).1 (uP x z (S.2.1 66) 0).2).length).2.1 ∧ hvM S' (lgOf t f (tn (uP x z (S.2.1 66) 0).1 (uP x z (S.2.1 66) 0).2).length) := by
  have hbt := tn_bt (uP_bt z (S.2.1 66) 0 hx (fun j hj => absurd hj (by omega)))
  have hlen := Nat.le_trans (tn_len (uP x z (S.2.1 66) 0).1 (uP x z (S.2.1 66) 0).2) (uP_n x z (S.2.1 66) 0)
  obtain ⟨S1, a1, a2, a3, c1, c2⟩ := e_findsTurns x z hz S hL h18 hxs
  generalize hTL : tn (uP x z (S.2.1 66) 0).1 (uP x z (S.2.1 66) 0).2 = TL at *
  have hL1 := hL.fr a2
  have hL2 : hLay (hPut (hPut S1 57 20 0) 57 22 0) := (hL1.put _ _ _).put _ _ _
  obtain ⟨w, w1, w2⟩ := rn_clear 1000 0 (hPut (hPut S1 57 20 0) 57 22 0) (by omega) hL2 (fun i hi => absurd hi (by omega))
  have start : ∀ o, Rn hc_X10_rains 36 [some (.inr (some (10, 57))), some (.inl (nI 1000))] [] (hRow (hPut (hPut S1 57 20 0) 57 22 0) 69 w) o → Ev 104 [.inr (some (10, 57))] S o := by
    intro o k
    show Rn hc_X10_rains 0 [some (.inr (some (10, 57))), none] [] S _
    refine r_step rfl rfl ?_
    refine r_callv rfl rfl a1 ?_
    iterate 8 refine r_step rfl rfl ?_
    exact w2 o k
  have fr2 : hFr S1 (hRow (hPut (hPut S1 57 20 0) 57 22 0) 69 w) (fun p => p = 57 ∨ (66 ≤ p ∧ p ≤ 69)) := ((hFr_put S1 57 20 0 (Or.inl rfl)).trans (hFr_put _ _ _ _ (Or.inl rfl))).trans (hFr_row _ _ _ (Or.inr ⟨by decide, by decide⟩))
  have hL3 := hL1.fr fr2
  have g57 : ∀ j, j ≠ 20 → j ≠ 22 → (hRow (hPut (hPut S1 57 20 0) 57 22 0) 69 w).2.1 57 j = S1.2.1 57 j := fun j h1 h2 => by rw [hRow_ne _ _ (by decide), hPut_at, pk_un h2, hPut_at, pk_un h1]
  have g20 : (hRow (hPut (hPut S1 57 20 0) 57 22 0) 69 w).2.1 57 20 = 0 := by rw [hRow_ne _ _ (by decide), hPut_at, pk_un (by decide), hPut_at, pk_us]
  have g22 : (hRow (hPut (hPut S1 57 20 0) 57 22 0) 69 w).2.1 57 22 = 0 := by rw [hRow_ne _ _ (by decide), hPut_at, pk_us]
  have g67 : (hRow (hPut (hPut S1 57 20 0) 57 22 0) 69 w).2.1 67 = S1.2.1 67 := by rw [hRow_ne _ _ (by decide), hPut_ne (by decide), hPut_ne (by decide)]
  have g69 : (hRow (hPut (hPut S1 57 20 0) 57 22 0) 69 w).2.1 69 = w := hRow_at _ _ _
  generalize hRow (hPut (hPut S1 57 20 0) 57 22 0) 69 w = S2 at *
  have ht : ∀ i, i < TL.length → bt (S1.2.1 67 i) 0 999 := fun i hi => hbt _ (rL_mem c1 i hi)
  obtain ⟨S3, b1, b2, b3, b4⟩ := rn_row (S1.2.1 67) TL.length (by omega) ht TL.length 0 S2 (by omega) hL3 g67 (by rw [g57 18 (by decide) (by decide)]; exact c2) ⟨trivial, g20, g22, fun n hn => by rw [g69]; exact w1 n hn⟩
  have hL4 := hL3.fr b1
  have hg := gd_po TL.length ht
  generalize hP : po (S1.2.1 67) TL.length = P at *
  obtain ⟨q1, q2, q3, q4, -⟩ := hg
  obtain ⟨d1, d2, d3, d4⟩ := b3
  obtain ⟨S4, f1, f3, f4⟩ := rn_end (S3.2.1 68) P.2.2 P.1.length (fun i hi => q1 _ (rL_mem d1 i hi)) (by omega) (P.1.length - 1) 0 S3 (by omega) hL4 rfl d2 d4
  have k57 : ∀ j, S4.2.1 57 j = S3.2.1 57 j := fun j => by rw [f1.2.2 57 (by decide)]
  refine ⟨S4, S1.2.1 67, S3.2.1 68, start _ ?_, ?_, fun j h1 h2 h3 => ?_, c1, ?_, ?_, ?_, ?_⟩
  · iterate 2 refine r_step rfl rfl ?_
    refine b4 _ ?_
    iterate 2 refine r_step rfl rfl ?_
    exact f4
  · exact (((a2.mono (fun p hp => by omega)).trans fr2).trans (b1.mono (fun p hp => by omega))).trans (f1.mono (fun p hp => by omega))
  · rw [k57, b2 j h2 h3, g57 j h2 h3, a3 j h1]
  · rw [k57, b2 18 (by decide) (by decide), g57 18 (by decide) (by decide)]; exact c2
  · rw [hP]; exact d1
  · rw [hP, k57]; exact d3
  · unfold lgOf
    rw [hP]
    exact f3
end
section
/-! halves, rain. -/
def gOk (g : List (Nat × Nat)) : Prop := ∀ y ∈ g, y.1 < 1000 ∧ 0 < y.2
theorem cl_w : ∀ (d : Nat) (R : List Int32) (c : Nat) (g : List (Nat × Nat)), (∀ y ∈ g, 0 < y.2) → ∀ y ∈ (cl d R c g).2.2, 0 < y.2
  | 0, R, c, g, h => by unfold cl; exact h
  | d + 1, [], c, g, h => h
  | d + 1, [_], c, g, h => h
  | d + 1, [_, _], c, g, h => h
  | d + 1, [_, _, _], c, g, h => h
  | d + 1, x3 :: x2 :: x1 :: x0 :: R, c, g, h => by
    rw [cl_s]
    by_cases k : nab x2 x1 ≤ nab x1 x0 ∧ nab x2 x1 ≤ nab x3 x2
    · rw [if_pos k]
      refine cl_w d _ _ _ (fun y hy => ?_)
      rcases List.mem_cons.1 hy with rfl | hy
      · exact Nat.zero_lt_succ 1
      · exact h y hy
    · rw [if_neg k]; exact h
theorem po_w (t : Nat → Int32) : ∀ n, ∀ y ∈ (po t n).2.2, 0 < y.2
  | 0, y, hy => (nomatch hy)
  | n + 1, y, hy => cl_w 40 _ _ _ (po_w t n) y hy
theorem lg_ok {f : Nat → Int32} {g : List (Nat × Nat)} (h : gOk g) : ∀ m, (∀ i, i ≤ m → bt (f i) 0 999) → gOk (lg f g m)
  | 0, _ => h
  | m + 1, hf => by
    intro y hy
    rcases List.mem_cons.1 hy with rfl | hy
    · exact ⟨nab_lt (hf (m + 1) (by omega)) (hf m (by omega)), Nat.zero_lt_succ 0⟩
    · exact lg_ok h m (fun i hi => hf i (by omega)) y hy
theorem cnt_hi : ∀ {g : List (Nat × Nat)}, gOk g → ∀ n, 1000 ≤ n → cnt g n = 0
  | [], _, _, _ => rfl
  | y :: g, h, n, hn => by
    have a := (h y List.mem_cons_self).1
    show (if y.1 = n then y.2 else 0) + cnt g n = 0
    rw [if_neg (by omega), cnt_hi (fun z hz => h z (List.mem_cons_of_mem _ hz)) n hn]
theorem sum_0 : ∀ k, sumN (fun _ => 0) k = 0
  | 0 => rfl
  | k + 1 => by show sumN (fun _ => 0) k + 0 = 0; rw [sum_0 k]
theorem kd_sum : ∀ {g : List (Nat × Nat)}, gOk g → sumN (fun n => if cnt g n = 0 then 0 else 1) 1000 = kd g
  | [], _ => sum_0 1000
  | y :: g, h => by
    have a := h y List.mem_cons_self
    obtain ⟨n, w⟩ := y
    have a1 : n < 1000 := a.1
    have a2 : 0 < w := a.2
    rw [kd_s, ← kd_sum (fun z hz => h z (List.mem_cons_of_mem _ hz)), Nat.add_comm]
    refine sumN_one (p := n) a1 (fun q _ hq => ?_) ?_
    · show (if cnt ((n, w) :: g) q = 0 then 0 else 1) = if cnt g q = 0 then 0 else 1
      rw [show cnt ((n, w) :: g) q = cnt g q by rw [cnt_s, if_neg (show ¬ n = q from fun e => hq e.symm), Nat.zero_add]]
    · show (if cnt ((n, w) :: g) n = 0 then 0 else 1) = (if cnt g n = 0 then 0 else 1) + (if cnt g n = 0 then 1 else 0)
      rw [show cnt ((n, w) :: g) n = w + cnt g n by rw [cnt_s, if_pos rfl], if_neg (show ¬ w + cnt g n = 0 by omega)]
      by_cases c : cnt g n = 0
      · rw [if_pos c, if_pos c]
      · rw [if_neg c, if_neg c]
theorem tw_sum : ∀ {g : List (Nat × Nat)}, gOk g → sumN (fun n => cnt g n) 1000 = tw g
  | [], _ => sum_0 1000
  | y :: g, h => by
    have a := h y List.mem_cons_self
    obtain ⟨n, w⟩ := y
    have a1 : n < 1000 := a.1
    show _ = w + tw g
    rw [← tw_sum (fun z hz => h z (List.mem_cons_of_mem _ hz)), Nat.add_comm]
    refine sumN_one (p := n) a1 (fun q _ hq => ?_) ?_
    · show cnt ((n, w) :: g) q = cnt g q
      rw [cnt_s, if_neg (fun e => hq e.symm), Nat.zero_add]
    · show cnt ((n, w) :: g) n = cnt g n + w
      rw [cnt_s, if_pos rfl, Nat.add_comm]
theorem best_mx (g : List (Nat × Nat)) (ht : tw g < 1000) : ∀ m, (best (fun n => nI (cnt g n)) m = -9 ∧ ∀ n, n < m → cnt g n = 0) ∨ ∃ n, n < m ∧ best (fun n => nI (cnt g n)) m = nI n ∧ 0 < cnt g n ∧ ∀ k, k < m → 0 < cnt g k → k ≤ n
  | 0 => Or.inl ⟨rfl, fun n hn => absurd hn (Nat.not_lt_zero n)⟩
  | m + 1 => by
    rw [best_s]
    have ct := cnt_tw g m
    by_cases c : cnt g m = 0
    · rw [if_pos (show nI (cnt g m) = 0 by rw [c]; rfl)]
      rcases best_mx g ht m with ⟨a, b⟩ | ⟨n, a, b, d, e⟩
      · refine Or.inl ⟨a, fun n hn => ?_⟩
        by_cases f : n = m
        · rw [f]; exact c
        · exact b n (by omega)
      · refine Or.inr ⟨n, by omega, b, d, fun k hk h0 => ?_⟩
        by_cases f : k = m
        · rw [f] at h0; omega
        · exact e k (by omega) h0
    · rw [if_neg (show ¬ nI (cnt g m) = 0 from fun q => c ((nI_eq (by omega) (by decide)).1 (show nI (cnt g m) = nI 0 from q)))]
      exact Or.inr ⟨m, by omega, rfl, by omega, fun k hk _ => by omega⟩
theorem best_mxP {g : List (Nat × Nat)} (h : gOk g) (ht : tw g < 1000) : mxP g (best (fun n => nI (cnt g n)) 1000) := by
  rcases best_mx g ht 1000 with ⟨a, b⟩ | ⟨n, a, b, d, e⟩
  · refine Or.inl ⟨a, fun n => ?_⟩
    by_cases f : n < 1000
    · exact b n f
    · exact cnt_hi h n (by omega)
  · refine Or.inr ⟨n, a, b, d, fun k h0 => ?_⟩
    by_cases f : k < 1000
    · exact e k f h0
    · rw [cnt_hi h k (by omega)] at h0; omega
set_option maxHeartbeats 4000000 in
set_option maxRecDepth 100000 in
theorem rain_both {S : hS} (h : Rel S) : ∃ (S1 : hS) (g : List (Nat × Nat)) (c y : Nat), Ev 123 [.inr (some (2, 51)), .inr (some (7, 8))] S (none, S1) ∧ hFr S S1 (fun p => 51 ≤ p ∧ p ≤ 55) ∧ S1.2.1 51 1 = nI c ∧ S1.2.1 51 7 = nI y ∧ hvC S1 g ∧ g.length ≤ 40 ∧ gOk g ∧ tw g < 1000 ∧ (∀ T, hLay T → T.2.1 58 = S.2.1 58 → T.2.1 66 = S.2.1 66 → ∃ T1, Ev 104 [.inr (some (10, 57))] T (none, T1) ∧ hFr T T1 (fun p => p = 57 ∨ (66 ≤ p ∧ p ≤ 69)) ∧ (∀ j, j ≠ 18 → j ≠ 20 → j ≠ 22 → T1.2.1 57 j = T.2.1 57 j) ∧ T1.2.1 57 18 = nI c ∧ T1.2.1 57 22 = nI y ∧ hvM T1 g) := by
  have hL := h.1
  obtain ⟨⟨h1', h2', h3', h4', n, z, g1, g2, g3, g4, g5⟩, hi⟩ := h.2.2.2.1
  have hx : ∀ i, i < z → bt (S.2.1 58 (19 + i)) 0 999 := fun i hi2 => hi.2.2.2.2 i (by omega)
  have hsp : spd S z (fun i => S.2.1 58 (19 + i)) := ⟨n, g1, g3, show S.2.1 8 2 = nI z by rw [← g4]; exact h4', g5⟩
  obtain ⟨S1, t, f, a1, a2, a3, a4, a5, a6, a7⟩ := e_pour z g2 (fun i => S.2.1 58 (19 + i)) (S.2.1 66) hx S hL hsp
  have hbt := tn_bt (uP_bt z (S.2.1 66) 0 hx (fun j hj => absurd hj (by omega)))
  have hlen := Nat.le_trans (tn_len (uP (fun i => S.2.1 58 (19 + i)) z (S.2.1 66) 0).1 (uP (fun i => S.2.1 58 (19 + i)) z (S.2.1 66) 0).2) (uP_n (fun i => S.2.1 58 (19 + i)) z (S.2.1 66) 0)
  have mod : ∀ T, hLay T → T.2.1 58 = S.2.1 58 → T.2.1 66 = S.2.1 66 → _ := fun T hT e1 e2 => e_rains z g2 (fun i => S.2.1 58 (19 + i)) hx T hT (by rw [e1]; exact g4) (fun i _ => by rw [e1])
  have mod2 : ∀ T, hLay T → T.2.1 58 = S.2.1 58 → T.2.1 66 = S.2.1 66 → ∃ S' t f, Ev 104 [.inr (some (10, 57))] T (none, S') ∧ hFr T S' (fun p => p = 57 ∨ (66 ≤ p ∧ p ≤ 69)) ∧ (∀ j, j ≠ 18 → j ≠ 20 → j ≠ 22 → S'.2.1 57 j = T.2.1 57 j) ∧ rL t (tn (uP (fun i => S.2.1 58 (19 + i)) z (S.2.1 66) 0).1 (uP (fun i => S.2.1 58 (19 + i)) z (S.2.1 66) 0).2) ∧ S'.2.1 57 18 = nI (tn (uP (fun i => S.2.1 58 (19 + i)) z (S.2.1 66) 0).1 (uP (fun i => S.2.1 58 (19 + i)) z (S.2.1 66) 0).2).length ∧ rL f (po t (tn (uP (fun i => S.2.1 58 (19 + i)) z (S.2.1 66) 0).1 (uP (fun i => S.2.1 58 (19 + i)) z (S.2.1 66) 0).2).length).1 ∧ S'.2.1 57 22 = nI (po t (tn (uP (fun i => S.2.1 58 (19 + i)) z (S.2.1 66) 0).1 (uP (fun i => S.2.1 58 (19 + i)) z (S.2.1 66) 0).2).length).2.1 ∧ hvM S' (lgOf t f (tn (uP (fun i => S.2.1 58 (19 + i)) z (S.2.1 66) 0).1 (uP (fun i => S.2.1 58 (19 + i)) z (S.2.1 66) 0).2).length) := by
    intro T hT e1 e2
    have k := mod T hT e1 e2
    rw [e2] at k
    exact k
  generalize hTL : tn (uP (fun i => S.2.1 58 (19 + i)) z (S.2.1 66) 0).1 (uP (fun i => S.2.1 58 (19 + i)) z (S.2.1 66) 0).2 = TL at *
  have ht : ∀ i, i < TL.length → bt (t i) 0 999 := fun i hi => hbt _ (rL_mem a3 i hi)
  obtain ⟨q1, q2, q3, q4, q5⟩ := gd_po TL.length ht
  have qw := po_w t TL.length
  refine ⟨S1, lgOf t f TL.length, TL.length, (po t TL.length).2.1, a1, a2, a4, a6, a7, ?_, ?_, ?_, ?_⟩
  · unfold lgOf
    rw [lg_len]
    omega
  · unfold lgOf
    by_cases c : (po t TL.length).1.length = 0
    · rw [c]; exact fun y hy => ⟨q4 y hy, qw y hy⟩
    · exact lg_ok (fun y hy => ⟨q4 y hy, qw y hy⟩) _ (fun i hi => q1 _ (rL_mem a5 i (by omega)))
  · unfold lgOf
    rw [lg_tw]
    omega
  · intro T hT e1 e2
    obtain ⟨T1, t', f', b1, b2, b3, b4, b5, b6, b7, b8⟩ := mod2 T hT e1 e2
    have eP : po t' TL.length = po t TL.length := po_c _ (fun i hi => rL_eq b4 a3 i hi)
    rw [eP] at b6 b7
    refine ⟨T1, b1, b2, b3, b5, b7, ?_⟩
    have eG : lgOf t' f' TL.length = lgOf t f TL.length := by
      unfold lgOf
      rw [eP]
      by_cases c : (po t TL.length).1.length = 0
      · rw [c]; rfl
      · exact lg_c _ _ (fun i hi => rL_eq b6 a5 i (by omega))
    rw [← eG]
    exact b8
end
section
/-! halves and rain, the calls. -/
theorem rain_rel {S S1 T1 : hS} (h : Rel S) (a : hFr S S1 (fun p => 51 ≤ p ∧ p ≤ 55)) (b : hFr S1 T1 (fun p => p = 57 ∨ (66 ≤ p ∧ p ≤ 69))) (k : ∀ j, j ≠ 18 → j ≠ 20 → j ≠ 22 → T1.2.1 57 j = S1.2.1 57 j) : Rel T1 := by
  have e : S1.2.1 57 = S.2.1 57 := a.2.2 57 (by omega)
  refine rel_scr h ((a.mono (fun p hp => by unfold pScr; omega)).trans (b.mono (fun p hp => by unfold pScr; omega))) ?_ ?_ ?_
  · rw [k 3 (by decide) (by decide) (by decide), e]
  · rw [k 8 (by decide) (by decide) (by decide), e]
  · rw [k 24 (by decide) (by decide) (by decide), e]
theorem a_halves {S : hS} (h : Rel S) (x : Int32) : Alk 140 132 [.inl x] S := by
  have hL := h.1
  rcases mIn_iff (v := x) (lo := 0) (hi := 999) with ⟨kx, -⟩ | ⟨kx, x1, x2⟩
  · refine ⟨-1, S, S, ?_, ?_, h⟩
    · show Rn hc_X9_halves 0 [some (.inr (some (9, 0))), some (.inl x)] [] S _
      iterate 3 refine r_step rfl rfl ?_
      refine r_call rfl rfl (e_within _ _ _ _) ?_
      rw [kx]
      iterate 2 refine r_step rfl rfl ?_
      exact r_reti rfl rfl rfl
    · show Rn hc_X10_halves 0 [some (.inr (some (10, 57))), some (.inl x)] [] S _
      iterate 3 refine r_step rfl rfl ?_
      refine r_call rfl rfl (e_in _ _ _ _) ?_
      rw [kx]
      iterate 2 refine r_step rfl rfl ?_
      exact r_reti rfl rfl rfl
  have l9 : (999 : Int32).toInt = 999 := rfl
  obtain ⟨k, hk, rfl⟩ := bt_nI (hi := 999) (x := x) ⟨x1, by omega⟩ (by decide)
  obtain ⟨S1, g, c, y, a1, a2, a3, a4, a5, a6, a7, a8, a9⟩ := rain_both h
  have hL1 := hL.fr a2
  obtain ⟨T1, b1, b2, b3, b4, b5, b6⟩ := a9 S1 hL1 (a2.2.2 58 (by omega)) (a2.2.2 66 (by omega))
  refine ⟨nI (cnt g k), S1, T1, ?_, ?_, rain_rel h a2 b2 b3⟩
  · show Rn hc_X9_halves 0 [some (.inr (some (9, 0))), some (.inl (nI k))] [] S _
    iterate 3 refine r_step rfl rfl ?_
    refine r_call rfl rfl (e_within _ _ _ _) ?_
    rw [kx]
    iterate 2 refine r_step rfl rfl ?_
    refine r_getr rfl (rv_0_8 hL) ?_
    refine r_step rfl rfl ?_
    refine r_getr rfl (rv_0_3 hL) ?_
    refine r_getr rfl (rv_6_1 hL) ?_
    refine r_callv rfl rfl a1 ?_
    refine r_step rfl rfl ?_
    refine r_getr rfl (rv_0_8 hL1) ?_
    refine r_step rfl rfl ?_
    refine r_call rfl rfl (e_hvOf k (by omega) S1 g hL1 a5 a6) ?_
    exact r_reti rfl rfl rfl
  · have ho : Ev 115 [.inr (some (10, 57)), .inl (nI k)] S1 (some (nI (cnt g k)), T1) := by
      show Rn hc_X10_halvesOf 0 [some (.inr (some (10, 57))), some (.inl (nI k))] [] S1 _
      refine r_step rfl rfl ?_
      refine r_callv rfl rfl b1 ?_
      refine r_step rfl rfl ?_
      refine r_getr rfl (rv_57_21 (hL1.fr b2)) ?_
      refine r_step rfl rfl ?_
      refine r_iald rfl k (ti (by omega)) ⟨⟨by decide, by decide⟩, by show k < 1000; omega⟩ ?_
      exact r_reti rfl (b6 k (by omega)) rfl
    show Rn hc_X10_halves 0 [some (.inr (some (10, 57))), some (.inl (nI k))] [] S1 _
    iterate 3 refine r_step rfl rfl ?_
    refine r_call rfl rfl (e_in _ _ _ _) ?_
    rw [kx]
    iterate 3 refine r_step rfl rfl ?_
    refine r_call rfl rfl ho ?_
    refine r_step rfl rfl ?_
    exact r_reti rfl rfl rfl
theorem rain_l (g : List (Nat × Nat)) (hg : tw g < 1000) (x : Int32) (T : hS) (hL : hLay T) (hv : hvM T g) : ∀ (d i : Nat) (o : Option Int32 × hS), i + d = 1000 → Rn hc_X10_rain 87 [some (.inr (some (10, 57))), some (.inl x), some (.inl (nI (sumN (fun n => if cnt g n = 0 then 0 else 1) 1000))), some (.inl (best (fun n => nI (cnt g n)) 1000)), some (.inl (nI (sumN (fun n => cnt g n) 1000))), some (.inl (nI 1000))] [] T o → Rn hc_X10_rain 26 [some (.inr (some (10, 57))), some (.inl x), some (.inl (nI (sumN (fun n => if cnt g n = 0 then 0 else 1) i))), some (.inl (best (fun n => nI (cnt g n)) i)), some (.inl (nI (sumN (fun n => cnt g n) i))), some (.inl (nI i))] [] T o := by
  intro d
  induction d with
  | zero =>
    intro i o hi k
    have : i = 1000 := by omega
    subst this
    iterate 3 refine r_step rfl rfl ?_
    exact r_i_ge (fun _ => k) (fun q => absurd (show (1000 : Int32) ≤ nI 1000 by decide) q)
  | succ d ih =>
    intro i o hi k
    have ct := cnt_tw g i
    have ihk := ih (i + 1) o (by omega) k
    have z0 : ∀ n : Nat, n < 2147483648 → (nI n ≤ 0 ↔ n = 0) := fun n hn => by rw [i_le, ti hn, i_z]; omega
    have rd : ∀ (st : List hV) (q : Nat) (nx : Nat) (p0 a b d q2 : Nat) (v : Int32) (L : List (Option hV)) (_ : hFetch hc_X10_rain q = some (p0, .iaload, nx, a, b, d, q2, v)), Rn hc_X10_rain nx L (.inl (nI (cnt g i)) :: st) T o → Rn hc_X10_rain q L (.inl (nI i) :: .inr (some (11000, 69)) :: st) T o := by
      intro st q nx p0 a b d q2 v L hf kk
      refine r_iald hf i (ti (by omega)) ⟨⟨by decide, by decide⟩, by show i < 1000; omega⟩ ?_
      rw [hv i (by omega)]
      exact kk
    iterate 3 refine r_step rfl rfl ?_
    refine r_i_ge (fun q => absurd q (lt_lit (N := 1000) rfl (by decide) (by omega))) (fun _ => ?_)
    iterate 2 refine r_step rfl rfl ?_
    refine r_getr rfl (rv_57_21 hL) ?_
    refine r_step rfl rfl ?_
    refine rd _ _ _ _ _ _ _ _ _ _ rfl ?_
    refine r_step rfl rfl ?_
    by_cases c : cnt g i = 0
    · have e1 : sumN (fun n => if cnt g n = 0 then 0 else 1) (i + 1) = sumN (fun n => if cnt g n = 0 then 0 else 1) i + 0 := by
        show sumN (fun n => if cnt g n = 0 then 0 else 1) i + (if cnt g i = 0 then 0 else 1) = _
        rw [if_pos c]
      have e2 : best (fun n => nI (cnt g n)) (i + 1) = best (fun n => nI (cnt g n)) i := by
        rw [best_s]
        show (if nI (cnt g i) = 0 then _ else _) = _
        rw [if_pos (show nI (cnt g i) = 0 by rw [c]; rfl)]
      rw [e1, e2] at ihk
      refine r_i_le (fun _ => ?_) (fun q => absurd ((z0 _ (by omega)).2 c) q)
      iterate 2 refine r_step rfl rfl ?_
      rw [show (0 : Int32) = nI 0 from rfl, nI_add]
      iterate 2 refine r_step rfl rfl ?_
      refine r_getr rfl (rv_57_21 hL) ?_
      refine r_step rfl rfl ?_
      refine rd _ _ _ _ _ _ _ _ _ _ rfl ?_
      refine r_step rfl rfl ?_
      refine r_i_le (fun _ => ?_) (fun q => absurd ((z0 _ (by omega)).2 c) q)
      iterate 4 refine r_step rfl rfl ?_
      refine r_getr rfl (rv_57_21 hL) ?_
      refine r_step rfl rfl ?_
      refine rd _ _ _ _ _ _ _ _ _ _ rfl ?_
      refine r_step rfl rfl ?_
      rw [nI_add]
      iterate 3 refine r_step rfl rfl ?_
      show Rn hc_X10_rain 26 [some (.inr (some (10, 57))), some (.inl x), some (.inl (nI (sumN (fun n => if cnt g n = 0 then 0 else 1) i + 0))), some (.inl (best (fun n => nI (cnt g n)) i)), some (.inl (nI (sumN (fun n => cnt g n) i + cnt g i))), some (.inl (nI i + 1))] [] _ _
      rw [nI_s1]
      exact ihk
    · have e1 : sumN (fun n => if cnt g n = 0 then 0 else 1) (i + 1) = sumN (fun n => if cnt g n = 0 then 0 else 1) i + 1 := by
        show sumN (fun n => if cnt g n = 0 then 0 else 1) i + (if cnt g i = 0 then 0 else 1) = _
        rw [if_neg c]
      have e2 : best (fun n => nI (cnt g n)) (i + 1) = nI i := by
        rw [best_s]
        show (if nI (cnt g i) = 0 then _ else _) = _
        rw [if_neg (show ¬ nI (cnt g i) = 0 from fun q => c ((nI_eq (by omega) (by decide)).1 (show nI (cnt g i) = nI 0 from q)))]
      rw [e1, e2] at ihk
      refine r_i_le (fun q => absurd ((z0 _ (by omega)).1 q) c) (fun _ => ?_)
      iterate 3 refine r_step rfl rfl ?_
      rw [nI_s1]
      iterate 2 refine r_step rfl rfl ?_
      refine r_getr rfl (rv_57_21 hL) ?_
      refine r_step rfl rfl ?_
      refine rd _ _ _ _ _ _ _ _ _ _ rfl ?_
      refine r_step rfl rfl ?_
      refine r_i_le (fun q => absurd ((z0 _ (by omega)).1 q) c) (fun _ => ?_)
      iterate 5 refine r_step rfl rfl ?_
      refine r_getr rfl (rv_57_21 hL) ?_
      refine r_step rfl rfl ?_
      refine rd _ _ _ _ _ _ _ _ _ _ rfl ?_
      refine r_step rfl rfl ?_
      rw [nI_add]
      iterate 3 refine r_step rfl rfl ?_
      show Rn hc_X10_rain 26 [some (.inr (some (10, 57))), some (.inl x), some (.inl (nI (sumN (fun n => if cnt g n = 0 then 0 else 1) i + 1))), some (.inl (nI i)), some (.inl (nI (sumN (fun n => cnt g n) i + cnt g i))), some (.inl (nI i + 1))] [] _ _
      rw [nI_s1]
      exact ihk
set_option maxHeartbeats 4000000 in
set_option maxRecDepth 100000 in
theorem a_rain {S : hS} (h : Rel S) (x : Int32) : Alk 144 119 [.inl x] S := by
  have hL := h.1
  rcases mIn_iff (v := x) (lo := 0) (hi := 4) with ⟨kx, -⟩ | ⟨kx, x1, x2⟩
  · refine ⟨-1, S, S, ?_, ?_, h⟩
    · show Rn hc_X9_rain 0 [some (.inr (some (9, 0))), some (.inl x)] [] S _
      iterate 3 refine r_step rfl rfl ?_
      refine r_call rfl rfl (e_within _ _ _ _) ?_
      rw [kx]
      iterate 2 refine r_step rfl rfl ?_
      exact r_reti rfl rfl rfl
    · show Rn hc_X10_rain 0 [some (.inr (some (10, 57))), some (.inl x), none, none, none, none] [] S _
      iterate 3 refine r_step rfl rfl ?_
      refine r_call rfl rfl (e_in _ _ _ _) ?_
      rw [kx]
      iterate 2 refine r_step rfl rfl ?_
      exact r_reti rfl rfl rfl
  have l9 : (4 : Int32).toInt = 4 := rfl
  obtain ⟨k, hk, rfl⟩ := bt_nI (hi := 4) (x := x) ⟨x1, by omega⟩ (by decide)
  obtain ⟨S1, g, c, y, a1, a2, a3, a4, a5, a6, a7, a8, a9⟩ := rain_both h
  have hL1 := hL.fr a2
  obtain ⟨T1, b1, b2, b3, b4, b5, b6⟩ := a9 S1 hL1 (a2.2.2 58 (by omega)) (a2.2.2 66 (by omega))
  have hLT := hL1.fr b2
  have startC : ∀ o, Rn hc_X9_rain 26 [some (.inr (some (9, 0))), some (.inl (nI k))] [.inl (nI k)] S1 o → Ev 144 [.inr (some (9, 0)), .inl (nI k)] S o := by
    intro o q
    show Rn hc_X9_rain 0 [some (.inr (some (9, 0))), some (.inl (nI k))] [] S _
    iterate 3 refine r_step rfl rfl ?_
    refine r_call rfl rfl (e_within _ _ _ _) ?_
    rw [kx]
    iterate 2 refine r_step rfl rfl ?_
    refine r_getr rfl (rv_0_8 hL) ?_
    refine r_step rfl rfl ?_
    refine r_getr rfl (rv_0_3 hL) ?_
    refine r_getr rfl (rv_6_1 hL) ?_
    refine r_callv rfl rfl a1 ?_
    refine r_step rfl rfl ?_
    exact q
  have startM : ∀ o, Rn hc_X10_rain 87 [some (.inr (some (10, 57))), some (.inl (nI k)), some (.inl (nI (kd g))), some (.inl (best (fun n => nI (cnt g n)) 1000)), some (.inl (nI (tw g))), some (.inl (nI 1000))] [] T1 o → Ev 119 [.inr (some (10, 57)), .inl (nI k)] S1 o := by
    intro o q
    show Rn hc_X10_rain 0 [some (.inr (some (10, 57))), some (.inl (nI k)), none, none, none, none] [] S1 _
    iterate 3 refine r_step rfl rfl ?_
    refine r_call rfl rfl (e_in _ _ _ _) ?_
    rw [kx]
    iterate 2 refine r_step rfl rfl ?_
    refine r_callv rfl rfl b1 ?_
    iterate 8 refine r_step rfl rfl ?_
    refine rain_l g a8 (nI k) T1 hLT b6 1000 0 o (by omega) ?_
    rw [kd_sum a7, tw_sum a7]
    exact q
  have rel := rain_rel h a2 b2 b3
  match k, hk, startC, startM with
  | 0, _, startC, startM =>
    refine ⟨nI (kd g), S1, T1, startC _ ?_, startM _ ?_, rel⟩
    · refine r_tsw 56 rfl (by decide) ?_
      refine r_step rfl rfl ?_
      refine r_getr rfl (rv_0_8 hL1) ?_
      refine r_step rfl rfl ?_
      obtain ⟨d, h6, -⟩ := a5
      exact r_reti rfl h6 rfl
    · iterate 4 refine r_step rfl rfl ?_
      exact r_reti rfl rfl rfl
  | 1, _, startC, startM =>
    obtain ⟨r, r1, r2⟩ := e_greatest S1 g hL1 a5 a6
    refine ⟨r, S1, T1, startC _ ?_, startM _ ?_, rel⟩
    · refine r_tsw 64 rfl (by decide) ?_
      refine r_step rfl rfl ?_
      refine r_getr rfl (rv_0_8 hL1) ?_
      refine r_call rfl rfl r2 ?_
      exact r_reti rfl rfl rfl
    · iterate 7 refine r_step rfl rfl ?_
      exact r_reti rfl (mxP_eq (best_mxP a7 a8) r1) rfl
  | 2, _, startC, startM =>
    refine ⟨nI (tw g), S1, T1, startC _ ?_, startM _ ?_, rel⟩
    · refine r_tsw 72 rfl (by decide) ?_
      refine r_step rfl rfl ?_
      refine r_getr rfl (rv_0_8 hL1) ?_
      refine r_call rfl rfl (e_allHalves S1 g hL1 a5 a6) ?_
      exact r_reti rfl rfl rfl
    · iterate 10 refine r_step rfl rfl ?_
      exact r_reti rfl rfl rfl
  | 3, _, startC, startM =>
    refine ⟨nI y, S1, T1, startC _ ?_, startM _ ?_, rel⟩
    · refine r_tsw 80 rfl (by decide) ?_
      refine r_step rfl rfl ?_
      refine r_getr rfl (rv_0_8 hL1) ?_
      refine r_step rfl rfl ?_
      exact r_reti rfl a4 rfl
    · iterate 14 refine r_step rfl rfl ?_
      exact r_reti rfl b5 rfl
  | 4, _, startC, startM =>
    refine ⟨nI c, S1, T1, startC _ ?_, startM _ ?_, rel⟩
    · refine r_tsw 88 rfl (by decide) ?_
      refine r_step rfl rfl ?_
      refine r_getr rfl (rv_0_8 hL1) ?_
      refine r_step rfl rfl ?_
      exact r_reti rfl a3 rfl
    · iterate 13 refine r_step rfl rfl ?_
      exact r_reti rfl b4 rfl
  | n + 5, hk, _, _ => exact absurd hk (by omega)
end
section
/-! sees. -/
theorem e_seenAdd (a b v : Int32) (z : Nat) (S : hS) (hL : hLay S) (hz : S.2.1 46 4 = nI z) (hl : z < 6) : Ev 33 [.inr (some (4, 46)), .inl a, .inl b, .inl v] S (none, hPut (hPut (hPut (hPut S 47 z a) 48 z b) 49 z v) 46 4 (nI (z + 1))) := by
  show Rn hc_X4_add 0 [some (.inr (some (4, 46))), some (.inl a), some (.inl b), some (.inl v)] [] S _
  iterate 3 refine r_step rfl rfl ?_
  rw [hz]
  refine r_i_lt (fun q => absurd q (nI_pos (by omega))) (fun _ => ?_)
  iterate 4 refine r_step rfl rfl ?_
  rw [hz]
  refine r_i_ge (fun q => absurd q (lt_lit (N := 6) rfl (by decide) hl)) (fun _ => ?_)
  refine r_step rfl rfl ?_
  refine r_getr rfl (rv_46_0 hL) ?_
  iterate 3 refine r_step rfl rfl ?_
  refine r_iast0 rfl z (by rw [hz]; exact ti (by omega)) ⟨⟨by decide, by decide⟩, hl⟩ ?_
  refine r_step rfl rfl ?_
  refine r_getr rfl (rv_46_1 (hL.put _ _ _)) ?_
  iterate 3 refine r_step rfl rfl ?_
  refine r_iast0 rfl z (by rw [hPut_ne (by decide), hz]; exact ti (by omega)) ⟨⟨by decide, by decide⟩, hl⟩ ?_
  refine r_step rfl rfl ?_
  refine r_getr rfl (rv_46_2 ((hL.put _ _ _).put _ _ _)) ?_
  iterate 3 refine r_step rfl rfl ?_
  refine r_iast0 rfl z (by rw [hPut_ne (by decide), hPut_ne (by decide), hz]; exact ti (by omega)) ⟨⟨by decide, by decide⟩, hl⟩ ?_
  iterate 6 refine r_step rfl rfl ?_
  rw [hPut_ne (show 46 ≠ 49 by decide), hPut_ne (show 46 ≠ 48 by decide), hPut_ne (show 46 ≠ 47 by decide), hz, nI_s1]
  exact r_retn rfl rfl
set_option maxHeartbeats 4000000 in
set_option maxRecDepth 100000 in
theorem a_sees {S : hS} (h : Rel S) (x y v : Int32) : Alk 94 68 [.inl x, .inl y, .inl v] S := by
  have hL := h.1
  obtain ⟨z, k1, k2, k3, k4⟩ := h.2.2.2.2.2.2
  have outC : Rn hc_X9_sees 31 [some (.inr (some (9, 0))), some (.inl x), some (.inl y), some (.inl v)] [] S (some (-1), S) := by
    refine r_step rfl rfl ?_
    exact r_reti rfl rfl rfl
  have outM : Rn hc_X10_sees 31 [some (.inr (some (10, 57))), some (.inl x), some (.inl y), some (.inl v)] [] S (some (-1), S) := by
    refine r_step rfl rfl ?_
    exact r_reti rfl rfl rfl
  have startC : ∀ o, Rn hc_X9_sees 7 [some (.inr (some (9, 0))), some (.inl x), some (.inl y), some (.inl v)] [.inl (mIn x 1 20)] S o → Ev 94 [.inr (some (9, 0)), .inl x, .inl y, .inl v] S o := by
    intro o q
    show Rn hc_X9_sees 0 [some (.inr (some (9, 0))), some (.inl x), some (.inl y), some (.inl v)] [] S _
    iterate 3 refine r_step rfl rfl ?_
    exact r_call rfl rfl (e_within _ _ _ _) q
  have startM : ∀ T o, Rn hc_X10_sees 7 [some (.inr (some (10, 57))), some (.inl x), some (.inl y), some (.inl v)] [.inl (mIn x 1 20)] T o → Ev 68 [.inr (some (10, 57)), .inl x, .inl y, .inl v] T o := by
    intro T o q
    show Rn hc_X10_sees 0 [some (.inr (some (10, 57))), some (.inl x), some (.inl y), some (.inl v)] [] T _
    iterate 3 refine r_step rfl rfl ?_
    exact r_call rfl rfl (e_in _ _ _ _) q
  have l1 : (1 : Int32).toInt = 1 := rfl
  have l20 : (20 : Int32).toInt = 20 := rfl
  have l40 : (40 : Int32).toInt = 40 := rfl
  have l999 : (999 : Int32).toInt = 999 := rfl
  rcases mIn_iff (v := x) (lo := 1) (hi := 20) with ⟨kx, -⟩ | ⟨kx, x1, x2⟩
  · rw [kx] at startC startM
    refine ⟨-1, S, S, startC _ ?_, startM _ _ ?_, h⟩
    · refine r_step rfl rfl ?_
      exact outC
    · refine r_step rfl rfl ?_
      exact outM
  rw [kx] at startC startM
  have startC2 : ∀ o, Rn hc_X9_sees 17 [some (.inr (some (9, 0))), some (.inl x), some (.inl y), some (.inl v)] [.inl (mIn y 0 40)] S o → Ev 94 [.inr (some (9, 0)), .inl x, .inl y, .inl v] S o := by
    intro o q
    refine startC _ ?_
    iterate 4 refine r_step rfl rfl ?_
    exact r_call rfl rfl (e_within _ _ _ _) q
  have startM2 : ∀ T o, Rn hc_X10_sees 17 [some (.inr (some (10, 57))), some (.inl x), some (.inl y), some (.inl v)] [.inl (mIn y 0 40)] T o → Ev 68 [.inr (some (10, 57)), .inl x, .inl y, .inl v] T o := by
    intro T o q
    refine startM _ _ ?_
    iterate 4 refine r_step rfl rfl ?_
    exact r_call rfl rfl (e_in _ _ _ _) q
  rcases mIn_iff (v := y) (lo := 0) (hi := 40) with ⟨ky, -⟩ | ⟨ky, y1, y2⟩
  · rw [ky] at startC2 startM2
    refine ⟨-1, S, S, startC2 _ ?_, startM2 _ _ ?_, h⟩
    · refine r_step rfl rfl ?_
      exact outC
    · refine r_step rfl rfl ?_
      exact outM
  rw [ky] at startC2 startM2
  have startC3 : ∀ o, Rn hc_X9_sees 28 [some (.inr (some (9, 0))), some (.inl x), some (.inl y), some (.inl v)] [.inl (mIn v 0 999)] S o → Ev 94 [.inr (some (9, 0)), .inl x, .inl y, .inl v] S o := by
    intro o q
    refine startC2 _ ?_
    iterate 4 refine r_step rfl rfl ?_
    exact r_call rfl rfl (e_within _ _ _ _) q
  have startM3 : ∀ T o, Rn hc_X10_sees 28 [some (.inr (some (10, 57))), some (.inl x), some (.inl y), some (.inl v)] [.inl (mIn v 0 999)] T o → Ev 68 [.inr (some (10, 57)), .inl x, .inl y, .inl v] T o := by
    intro T o q
    refine startM2 _ _ ?_
    iterate 4 refine r_step rfl rfl ?_
    exact r_call rfl rfl (e_in _ _ _ _) q
  rcases mIn_iff (v := v) (lo := 0) (hi := 999) with ⟨kv, -⟩ | ⟨kv, v1, v2⟩
  · rw [kv] at startC3 startM3
    refine ⟨-1, S, S, startC3 _ ?_, startM3 _ _ ?_, h⟩
    · refine r_step rfl rfl ?_
      exact outC
    · refine r_step rfl rfl ?_
      exact outM
  rw [kv] at startC3 startM3
  by_cases c : z = 6
  · subst c
    refine ⟨-3, S, S, startC3 _ ?_, startM3 _ _ ?_, h⟩
    · iterate 2 refine r_step rfl rfl ?_
      refine r_getr rfl (rv_0_7 hL) ?_
      iterate 3 refine r_step rfl rfl ?_
      rw [k2]
      refine r_i_lt (fun q => absurd q (by decide)) (fun _ => ?_)
      refine r_step rfl rfl ?_
      exact r_reti rfl rfl rfl
    · iterate 5 refine r_step rfl rfl ?_
      rw [k3]
      refine r_i_ne (fun q => absurd (show nI 6 = 6 by decide) q) (fun _ => ?_)
      refine r_step rfl rfl ?_
      exact r_reti rfl rfl rfl
  have hz : z < 6 := by omega
  have q1 : (hPut (hPut (hPut (hPut S 47 z x) 48 z y) 49 z v) 46 4 (nI (z + 1))).2.1 57 24 = nI z := by rw [hPut_ne (by decide), hPut_ne (by decide), hPut_ne (by decide), hPut_ne (by decide)]; exact k3
  have frC : hFr S (hPut (hPut (hPut (hPut S 47 z x) 48 z y) 49 z v) 46 4 (nI (z + 1))) (fun p => p = 2 ∨ p = 3 ∨ p = 64 ∨ p = 57 ∨ p = 46 ∨ p = 47 ∨ p = 48 ∨ p = 49 ∨ p = 70) := (((hFr_put S 47 z x (by omega)).trans (hFr_put _ _ _ _ (by omega))).trans (hFr_put _ _ _ _ (by omega))).trans (hFr_put _ _ _ _ (by omega))
  have p46 : (hPut (hPut (hPut (hPut S 47 z x) 48 z y) 49 z v) 46 4 (nI (z + 1))).2.1 46 4 = nI (z + 1) := by rw [hPut_at, pk_us]
  have p47 : (hPut (hPut (hPut (hPut S 47 z x) 48 z y) 49 z v) 46 4 (nI (z + 1))).2.1 47 = upd (S.2.1 47) z x := by rw [hPut_ne (by decide), hPut_ne (by decide), hPut_ne (by decide), hPut_at]
  have p48 : (hPut (hPut (hPut (hPut S 47 z x) 48 z y) 49 z v) 46 4 (nI (z + 1))).2.1 48 = upd (S.2.1 48) z y := by rw [hPut_ne (by decide), hPut_ne (by decide), hPut_at, hPut_ne (by decide)]
  have p49 : (hPut (hPut (hPut (hPut S 47 z x) 48 z y) 49 z v) 46 4 (nI (z + 1))).2.1 49 = upd (S.2.1 49) z v := by rw [hPut_ne (by decide), hPut_at, hPut_ne (by decide), hPut_ne (by decide)]
  have p57 : (hPut (hPut (hPut (hPut S 47 z x) 48 z y) 49 z v) 46 4 (nI (z + 1))).2.1 57 = S.2.1 57 := by rw [hPut_ne (by decide), hPut_ne (by decide), hPut_ne (by decide), hPut_ne (by decide)]
  have p70 : (hPut (hPut (hPut (hPut S 47 z x) 48 z y) 49 z v) 46 4 (nI (z + 1))).2.1 70 = S.2.1 70 := by rw [hPut_ne (by decide), hPut_ne (by decide), hPut_ne (by decide), hPut_ne (by decide)]
  have hL1 : hLay (hPut (hPut (hPut (hPut S 47 z x) 48 z y) 49 z v) 46 4 (nI (z + 1))) := hL.fr frC
  have eC := e_seenAdd x y v z S hL k2 hz
  have pX : ∀ p, p ≠ 46 → p ≠ 47 → p ≠ 48 → p ≠ 49 → (hPut (hPut (hPut (hPut S 47 z x) 48 z y) 49 z v) 46 4 (nI (z + 1))).2.1 p = S.2.1 p := fun p g1 g2 g3 g4 => by rw [hPut_ne g1, hPut_ne g4, hPut_ne g3, hPut_ne g2]
  generalize hPut (hPut (hPut (hPut S 47 z x) 48 z y) 49 z v) 46 4 (nI (z + 1)) = S1 at *
  have r57 : (hPut (hPut (hPut (hPut S1 70 (3 * z) x) 70 (3 * z + 1) y) 70 (3 * z + 2) v) 57 24 (nI (z + 1))).2.1 57 = upd (S1.2.1 57) 24 (nI (z + 1)) := by rw [hPut_at, hPut_ne (by decide), hPut_ne (by decide), hPut_ne (by decide)]
  have r70 : (hPut (hPut (hPut (hPut S1 70 (3 * z) x) 70 (3 * z + 1) y) 70 (3 * z + 2) v) 57 24 (nI (z + 1))).2.1 70 = upd (upd (upd (S1.2.1 70) (3 * z) x) (3 * z + 1) y) (3 * z + 2) v := by rw [hPut_ne (by decide), hPut_at, hPut_at, hPut_at]
  have rx : ∀ p, p ≠ 57 → p ≠ 70 → (hPut (hPut (hPut (hPut S1 70 (3 * z) x) 70 (3 * z + 1) y) 70 (3 * z + 2) v) 57 24 (nI (z + 1))).2.1 p = S1.2.1 p := fun p h1 h2 => by rw [hPut_ne h1, hPut_ne h2, hPut_ne h2, hPut_ne h2]
  have frM : hFr S1 (hPut (hPut (hPut (hPut S1 70 (3 * z) x) 70 (3 * z + 1) y) 70 (3 * z + 2) v) 57 24 (nI (z + 1))) (fun p => p = 2 ∨ p = 3 ∨ p = 64 ∨ p = 57 ∨ p = 46 ∨ p = 47 ∨ p = 48 ∨ p = 49 ∨ p = 70) := (((hFr_put S1 70 _ x (by omega)).trans (hFr_put _ _ _ _ (by omega))).trans (hFr_put _ _ _ _ (by omega))).trans (hFr_put _ _ _ _ (by omega))
  refine ⟨nI (z + 1), S1, hPut (hPut (hPut (hPut S1 70 (3 * z) x) 70 (3 * z + 1) y) 70 (3 * z + 2) v) 57 24 (nI (z + 1)), startC3 _ ?_, startM3 _ _ ?_, ?_⟩
  · iterate 2 refine r_step rfl rfl ?_
    refine r_getr rfl (rv_0_7 hL) ?_
    iterate 3 refine r_step rfl rfl ?_
    rw [k2]
    refine r_i_lt (fun _ => ?_) (fun q => absurd (nI_lt (b := 6) hz (by decide)) q)
    refine r_step rfl rfl ?_
    refine r_getr rfl (rv_0_7 hL) ?_
    iterate 3 refine r_step rfl rfl ?_
    refine r_callv rfl rfl eC ?_
    refine r_step rfl rfl ?_
    refine r_getr rfl (rv_0_7 hL1) ?_
    refine r_step rfl rfl ?_
    exact r_reti rfl p46 rfl
  · iterate 5 refine r_step rfl rfl ?_
    rw [q1]
    refine r_i_ne (fun _ => ?_) (fun q => absurd ((nI_eq (by omega) (by decide)).1 (show nI z = nI 6 from q)) c)
    refine r_step rfl rfl ?_
    refine r_getr rfl (rv_57_23 hL1) ?_
    iterate 5 refine r_step rfl rfl ?_
    rw [q1, mul_lit (x := 3) (a := 3) (b := z) rfl]
    refine r_iast0 rfl (3 * z) (ti (by omega)) ⟨⟨by decide, by decide⟩, by show 3 * z < 18; omega⟩ ?_
    refine r_step rfl rfl ?_
    refine r_getr rfl (rv_57_23 (hL1.put _ _ _)) ?_
    iterate 7 refine r_step rfl rfl ?_
    rw [hPut_ne (show 57 ≠ 70 by decide), q1, mul_lit (x := 3) (a := 3) (b := z) rfl, nI_s1]
    refine r_iast0 rfl (3 * z + 1) (ti (by omega)) ⟨⟨by decide, by decide⟩, by show 3 * z + 1 < 18; omega⟩ ?_
    refine r_step rfl rfl ?_
    refine r_getr rfl (rv_57_23 ((hL1.put _ _ _).put _ _ _)) ?_
    iterate 7 refine r_step rfl rfl ?_
    rw [hPut_ne (show 57 ≠ 70 by decide), hPut_ne (show 57 ≠ 70 by decide), q1, mul_lit (x := 3) (a := 3) (b := z) rfl, add_lit (x := 2) (b := 2) rfl]
    refine r_iast0 rfl (3 * z + 2) (ti (by omega)) ⟨⟨by decide, by decide⟩, by show 3 * z + 2 < 18; omega⟩ ?_
    iterate 6 refine r_step rfl rfl ?_
    rw [hPut_ne (show 57 ≠ 70 by decide), hPut_ne (show 57 ≠ 70 by decide), hPut_ne (show 57 ≠ 70 by decide), q1, nI_s1]
    iterate 2 refine r_step rfl rfl ?_
    exact r_reti rfl (by rw [hPut_at, pk_us]) rfl
  · refine rel_ts h (frC.trans frM) ?_ ?_ ?_
    · rw [r57, pk_un (by decide), p57]
    · rw [r57, pk_un (by decide), rx 2 (by decide) (by decide), rx 3 (by decide) (by decide), rx 64 (by decide) (by decide), p57, pX 2 (by decide) (by decide) (by decide) (by decide), pX 3 (by decide) (by decide) (by decide) (by decide), pX 64 (by decide) (by decide) (by decide) (by decide)]
      exact h.2.2.1
    · refine ⟨z + 1, by omega, ?_, ?_, fun i hi => ?_⟩
      · rw [rx 46 (by decide) (by decide)]; exact p46
      · rw [r57, pk_us]
      · rw [rx 47 (by decide) (by decide), rx 48 (by decide) (by decide), rx 49 (by decide) (by decide), r70, p47, p48, p49, p70]
        by_cases ci : i = z
        · subst ci
          rw [pk_us, pk_us, pk_us, pk_us, pk_un (show 3 * i + 1 ≠ 3 * i + 2 by omega), pk_us, pk_un (show 3 * i ≠ 3 * i + 2 by omega), pk_un (show 3 * i ≠ 3 * i + 1 by omega), pk_us]
          exact ⟨⟨rfl, rfl, rfl⟩, ⟨by omega, by omega⟩, ⟨by rw [i_z] at y1; exact y1, by omega⟩, ⟨by rw [i_z] at v1; exact v1, by omega⟩⟩
        · rw [pk_un ci, pk_un ci, pk_un ci]
          have e : ∀ j, j < 3 * z → upd (upd (upd (S.2.1 70) (3 * z) x) (3 * z + 1) y) (3 * z + 2) v j = S.2.1 70 j := fun j hj => by rw [pk_un (by omega), pk_un (by omega), pk_un (by omega)]
          rw [e (3 * i) (by omega), e (3 * i + 1) (by omega), e (3 * i + 2) (by omega)]
          exact k4 i (by omega)
end
section
/-! The speed after some ticks, by a wind and by ice. -/
def itS (st : Nat → Int32) : Nat → (Nat → Int32) → Nat → Int32
  | 0, w => w
  | n + 1, w => itS st n (wStep st w)
theorem itS_c {a b : Nat → Int32} (s : ∀ j, j < 6 → a j = b j) : ∀ n w u, eq16 w u → eq16 (itS a n w) (itS b n u)
  | 0, _, _, h => h
  | n + 1, w, u, h => itS_c s n _ _ (wStep_c h s)
theorem itS_r {st : Nat → Int32} (hs : okSet st) : ∀ n w, wRng st w → wPot w → wRng st (itS st n w)
  | 0, _, h, _ => h
  | n + 1, w, h, hp => itS_r hs n _ (step_inv hs h hp).1 (step_inv hs h hp).2.1
def sAf (st w : Nat → Int32) (n : Nat) (wd ic : Int32) : Int32 := itS st n (upd (upd w 4 wd) 8 ic) 1
theorem wRng.up8 {st w : Nat → Int32} (h : wRng st w) {x : Int32} (hx : bt x 0 5) : wRng st (upd w 8 x) := by
  obtain ⟨r0, r1, r2, r3, r4, r5, r6, r7, r8, r9, r10, r15⟩ := h
  exact ⟨r0, r1, r2, r3, r4, r5, r6, r7, hx, r9, r10, r15⟩
theorem sAf_bt {st w : Nat → Int32} (hs : okSet st) (h : wRng st w) (hp : wPot w) (n : Nat) {wd ic : Int32} (h4 : bt wd 0 40) (h8 : bt ic 0 5) : bt (sAf st w n wd ic) 0 999 :=
  (itS_r hs n _ ((h.up4 h4).up8 h8) ((hp.slot 4 (by decide) wd).slot 8 (by decide) ic)).2.1
theorem sAf_c {a b w u : Nat → Int32} (s : ∀ j, j < 6 → a j = b j) (h : eq16 w u) (n : Nat) (wd ic : Int32) : sAf a w n wd ic = sAf b u n wd ic := itS_c s n _ _ ((h.up 4 rfl).up 8 rfl) 1 (by decide)
theorem sa_l (N : Nat) (hN : N ≤ 20) (wd ic : Int32) : ∀ (d i : Nat) (T : hS), i + d = N → hLay T → okSet (T.2.1 1) → wRng (T.2.1 1) (T.2.1 56) → wPot (T.2.1 56) → ∃ w', Rn hc_X9_speedAfter 33 [some (.inr (some (9, 0))), some (.inl (nI N)), some (.inl wd), some (.inl ic), some (.inl (nI i))] [] T (some (itS (T.2.1 1) d (T.2.1 56) 1), hRow T 56 w') := by
  intro d
  induction d with
  | zero =>
    intro i T hi hL hs hr hp
    have : i = N := by omega
    subst this
    refine ⟨T.2.1 56, ?_⟩
    rw [hRow_self]
    iterate 3 refine r_step rfl rfl ?_
    refine r_i_ge (fun _ => ?_) (fun q => absurd (nI_le (Nat.le_refl _) (by omega)) q)
    refine r_step rfl rfl ?_
    refine r_getr rfl (rv_0_9 hL) ?_
    refine r_step rfl rfl ?_
    exact r_reti rfl rfl rfl
  | succ d ih =>
    intro i T hi hL hs hr hp
    have k := step_inv hs hr hp
    have e1 : (hRow T 56 (wStep (T.2.1 1) (T.2.1 56))).2.1 1 = T.2.1 1 := hRow_ne _ _ (by decide)
    obtain ⟨w', ihk⟩ := ih (i + 1) (hRow T 56 (wStep (T.2.1 1) (T.2.1 56))) (by omega) (hL.row _ _) (by rw [e1]; exact hs) (by rw [e1, hRow_at]; exact k.1) (by rw [hRow_at]; exact k.2.1)
    rw [e1, hRow_at, hRow_row] at ihk
    refine ⟨w', ?_⟩
    iterate 3 refine r_step rfl rfl ?_
    refine r_i_ge (fun q => absurd q (nI_ge (by omega) (by omega))) (fun _ => ?_)
    refine r_step rfl rfl ?_
    refine r_getr rfl (rv_0_9 hL) ?_
    refine r_step rfl rfl ?_
    refine r_getr rfl (rv_0_0 hL) ?_
    refine r_callv rfl rfl (e_step 56 1 T (by decide) hr.1) ?_
    iterate 2 refine r_step rfl rfl ?_
    show Rn hc_X9_speedAfter 33 [some (.inr (some (9, 0))), some (.inl (nI N)), some (.inl wd), some (.inl ic), some (.inl (nI i + 1))] [] _ _
    rw [nI_s1]
    exact ihk
theorem e_speedAfter (N : Nat) (hN : N ≤ 20) (wd ic : Int32) (h4 : bt wd 0 40) (h8 : bt ic 0 5) (S : hS) (hL : hLay S) (hs : okSet (S.2.1 1)) (hr : wRng (S.2.1 1) (S.2.1 7)) (hp : wPot (S.2.1 7)) : ∃ w', Ev 130 [.inr (some (9, 0)), .inl (nI N), .inl wd, .inl ic] S (some (sAf (S.2.1 1) (S.2.1 7) N wd ic), hRow S 56 w') := by
  have lo : eq16 (wCopy (S.2.1 56) (S.2.1 7)) (S.2.1 7) := fun j hj => wCopy_at j hj
  generalize hu : wCopy (S.2.1 56) (S.2.1 7) = u at lo
  have e1 : (hRow S 56 (upd (upd u 4 wd) 8 ic)).2.1 1 = S.2.1 1 := hRow_ne _ _ (by decide)
  have hr2 : wRng (S.2.1 1) u := hr.congr rfl lo
  have hp2 : wPot u := hp.congr (lo 0 (by decide)) (lo 1 (by decide)) (lo 2 (by decide))
  obtain ⟨w', k⟩ := sa_l N hN wd ic N 0 (hRow S 56 (upd (upd u 4 wd) 8 ic)) (by omega) (hL.row _ _) (by rw [e1]; exact hs) (by rw [e1, hRow_at]; exact (hr2.up4 h4).up8 h8) (by rw [hRow_at]; exact (hp2.slot 4 (by decide) wd).slot 8 (by decide) ic)
  rw [e1, hRow_at, hRow_row] at k
  have e : itS (S.2.1 1) N (upd (upd u 4 wd) 8 ic) 1 = sAf (S.2.1 1) (S.2.1 7) N wd ic := sAf_c (fun _ _ => rfl) lo N wd ic
  rw [e] at k
  refine ⟨w', ?_⟩
  show Rn hc_X9_speedAfter 0 [some (.inr (some (9, 0))), some (.inl (nI N)), some (.inl wd), some (.inl ic), none] [] S _
  refine r_step rfl rfl ?_
  refine r_getr rfl (rv_0_9 hL) ?_
  refine r_step rfl rfl ?_
  refine r_getr rfl (rv_0_3 hL) ?_
  refine r_getr rfl (rv_6_0 hL) ?_
  refine r_callv rfl rfl (e_wcopy 56 7 S (by decide) hr.2.2.2.2.2.2.2.2.2.1 hr.2.2.2.2.2.2.2.2.2.2.1 hr.2.2.2.2.2.2.2.2.2.2.2) ?_
  rw [hu]
  refine r_step rfl rfl ?_
  refine r_getr rfl (rv_0_9 (hL.row _ _)) ?_
  iterate 2 refine r_step rfl rfl ?_
  rw [hPut_row]
  refine r_step rfl rfl ?_
  refine r_getr rfl (rv_0_9 (hL.row _ _)) ?_
  iterate 2 refine r_step rfl rfl ?_
  rw [hPut_row]
  iterate 2 refine r_step rfl rfl ?_
  exact k
theorem sb_l (N : Nat) (hN : N ≤ 20) (wd ic : Int32) : ∀ (d i : Nat) (T : hS), i + d = N → hLay T → okSet (T.2.1 63) → wRng (T.2.1 63) (T.2.1 59) → wPot (T.2.1 59) → ∃ w', Rn hc_X10_speedBy 22 [some (.inr (some (10, 57))), some (.inl ic), some (.inl (nI N)), some (.inl wd), some (.inl (nI i))] [] T (some (itS (T.2.1 63) d (T.2.1 59) 1), hRow T 59 w') := by
  intro d
  induction d with
  | zero =>
    intro i T hi hL hs hr hp
    have : i = N := by omega
    subst this
    refine ⟨T.2.1 59, ?_⟩
    rw [hRow_self]
    iterate 3 refine r_step rfl rfl ?_
    refine r_i_ge (fun _ => ?_) (fun q => absurd (nI_le (Nat.le_refl _) (by omega)) q)
    refine r_step rfl rfl ?_
    refine r_getr rfl (rv_57_1 hL) ?_
    refine r_step rfl rfl ?_
    refine r_iald rfl 1 rfl ⟨⟨by decide, by decide⟩, by decide⟩ ?_
    exact r_reti rfl rfl rfl
  | succ d ih =>
    intro i T hi hL hs hr hp
    have k := step_inv hs hr hp
    have ge := (goes_eq hs hr).1
    have lo : eq16 (mGoes (T.2.1 63) (T.2.1 59)) (wStep (T.2.1 63) (T.2.1 59)) := fun j hj => by rw [ge, pk_un (by omega)]
    generalize hu : mGoes (T.2.1 63) (T.2.1 59) = u at lo
    have e1 : (hRow T 59 u).2.1 63 = T.2.1 63 := hRow_ne _ _ (by decide)
    obtain ⟨w', ihk⟩ := ih (i + 1) (hRow T 59 u) (by omega) (hL.row _ _) (by rw [e1]; exact hs) (by rw [e1, hRow_at]; exact k.1.congr rfl lo) (by rw [hRow_at]; exact k.2.1.congr (lo 0 (by decide)) (lo 1 (by decide)) (lo 2 (by decide)))
    rw [e1, hRow_at, hRow_row, itS_c (fun _ _ => rfl) d u _ lo 1 (by decide)] at ihk
    refine ⟨w', ?_⟩
    iterate 3 refine r_step rfl rfl ?_
    refine r_i_ge (fun q => absurd q (nI_ge (by omega) (by omega))) (fun _ => ?_)
    iterate 2 refine r_step rfl rfl ?_
    refine r_getr rfl (rv_57_1 hL) ?_
    refine r_callv rfl rfl (e_goesOn 59 T (rv_57_6 hL) (by decide) hr.1) ?_
    rw [hu]
    iterate 2 refine r_step rfl rfl ?_
    show Rn hc_X10_speedBy 22 [some (.inr (some (10, 57))), some (.inl ic), some (.inl (nI N)), some (.inl wd), some (.inl (nI i + 1))] [] _ _
    rw [nI_s1]
    exact ihk
theorem e_speedBy (N : Nat) (hN : N ≤ 20) (wd ic : Int32) (h4 : bt wd 0 40) (h8 : bt ic 0 5) (S : hS) (hL : hLay S) (hs : okSet (S.2.1 63)) (hr : wRng (S.2.1 63) (S.2.1 58)) (hp : wPot (S.2.1 58)) : ∃ w', Ev 151 [.inr (some (10, 57)), .inl ic, .inl (nI N), .inl wd] S (some (sAf (S.2.1 63) (S.2.1 58) N wd ic), hRow S 59 w') := by
  have lo : eq16 (cp (S.2.1 59) (S.2.1 58) 0 0 0 59) (S.2.1 58) := fun j hj => cp0 _ _ (by omega)
  generalize hu : cp (S.2.1 59) (S.2.1 58) 0 0 0 59 = u at lo
  have e1 : (hRow S 59 (upd (upd u 8 ic) 4 wd)).2.1 63 = S.2.1 63 := hRow_ne _ _ (by decide)
  have hr2 : wRng (S.2.1 63) u := hr.congr rfl lo
  have hp2 : wPot u := hp.congr (lo 0 (by decide)) (lo 1 (by decide)) (lo 2 (by decide))
  obtain ⟨w', k⟩ := sb_l N hN wd ic N 0 (hRow S 59 (upd (upd u 8 ic) 4 wd)) (by omega) (hL.row _ _) (by rw [e1]; exact hs) (by rw [e1, hRow_at]; exact (hr2.up8 h8).up4 h4) (by rw [hRow_at]; exact (hp2.slot 8 (by decide) ic).slot 4 (by decide) wd)
  rw [e1, hRow_at, hRow_row] at k
  have q : eq16 (upd (upd u 8 ic) 4 wd) (upd (upd (S.2.1 58) 4 wd) 8 ic) := fun j hj => by
    by_cases c4 : j = 4
    · rw [c4, pk_us, pk_un (by decide), pk_us]
    · by_cases c8 : j = 8
      · rw [c8, pk_us, pk_un (by decide), pk_us]
      · rw [pk_un c4, pk_un c8, pk_un c8, pk_un c4]
        exact lo j hj
  have e : itS (S.2.1 63) N (upd (upd u 8 ic) 4 wd) 1 = sAf (S.2.1 63) (S.2.1 58) N wd ic := itS_c (fun _ _ => rfl) N _ _ q 1 (by decide)
  rw [e] at k
  refine ⟨w', ?_⟩
  show Rn hc_X10_speedBy 0 [some (.inr (some (10, 57))), some (.inl ic), some (.inl (nI N)), some (.inl wd), none] [] S _
  refine r_step rfl rfl ?_
  refine r_callv rfl rfl (e_tries S hL) ?_
  rw [hu]
  refine r_step rfl rfl ?_
  refine r_getr rfl (rv_57_1 (hL.row _ _)) ?_
  iterate 2 refine r_step rfl rfl ?_
  refine r_iast0 rfl 8 rfl ⟨⟨by decide, by decide⟩, by decide⟩ ?_
  rw [hPut_row]
  refine r_step rfl rfl ?_
  refine r_getr rfl (rv_57_1 (hL.row _ _)) ?_
  iterate 2 refine r_step rfl rfl ?_
  refine r_iast0 rfl 4 rfl ⟨⟨by decide, by decide⟩, by decide⟩ ?_
  rw [hPut_row]
  iterate 2 refine r_step rfl rfl ?_
  exact k
end
