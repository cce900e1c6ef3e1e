section
-- ===== PART A: goes FIRST, ahead of the names: the tables' words, and 'selects' of the private methods out of them =====
/-- a private method of a class that the tables say can be made, by its rows of tables_1 -/
def lw_okq (q : MethodName × Nat) : Prop := (q.1.cls ≠ "java/lang/invoke/MethodHandle" ∧ q.1.cls ≠ "java/lang/invoke/VarHandle") ∧ Cond.instantiable q.1.cls q.2 ∈ tables_1 ∧ Cond.privateMethod q.1 ∈ tables_1 ∧ Cond.instanceMethod q.1 ∈ tables_1
theorem lw_p0 : lw_okq (⟨"LetterDays", "forgetAnswers", "()V"⟩, 6) := ⟨⟨by decide +kernel, by decide +kernel⟩, List.mem_of_getElem? (i := 13) (by decide +kernel), List.mem_of_getElem? (i := 266) (by decide +kernel), List.mem_of_getElem? (i := 267) (by decide +kernel)⟩
theorem lw_p1 : lw_okq (⟨"LetterDays", "bundlesWith", "(I)I"⟩, 6) := ⟨⟨by decide +kernel, by decide +kernel⟩, List.mem_of_getElem? (i := 13) (by decide +kernel), List.mem_of_getElem? (i := 329) (by decide +kernel), List.mem_of_getElem? (i := 330) (by decide +kernel)⟩
theorem lw_p2 : lw_okq (⟨"LetterDays$Web", "heed", "(IIII)V"⟩, 9) := ⟨⟨by decide +kernel, by decide +kernel⟩, List.mem_of_getElem? (i := 94) (by decide +kernel), List.mem_of_getElem? (i := 357) (by decide +kernel), List.mem_of_getElem? (i := 358) (by decide +kernel)⟩
theorem lw_p3 : lw_okq (⟨"LetterDays$Web", "link", "(III)V"⟩, 9) := ⟨⟨by decide +kernel, by decide +kernel⟩, List.mem_of_getElem? (i := 94) (by decide +kernel), List.mem_of_getElem? (i := 361) (by decide +kernel), List.mem_of_getElem? (i := 362) (by decide +kernel)⟩
theorem lw_p4 : lw_okq (⟨"LetterDays$Web", "notBehind", "(II)I"⟩, 9) := ⟨⟨by decide +kernel, by decide +kernel⟩, List.mem_of_getElem? (i := 94) (by decide +kernel), List.mem_of_getElem? (i := 387) (by decide +kernel), List.mem_of_getElem? (i := 388) (by decide +kernel)⟩
theorem lw_p5 : lw_okq (⟨"LetterDays$Ways", "sweep", "(I)V"⟩, 13) := ⟨⟨by decide +kernel, by decide +kernel⟩, List.mem_of_getElem? (i := 88) (by decide +kernel), List.mem_of_getElem? (i := 407) (by decide +kernel), List.mem_of_getElem? (i := 408) (by decide +kernel)⟩
theorem lw_p6 : lw_okq (⟨"LetterDays$Ways", "sweepUp", "(I)V"⟩, 13) := ⟨⟨by decide +kernel, by decide +kernel⟩, List.mem_of_getElem? (i := 88) (by decide +kernel), List.mem_of_getElem? (i := 411) (by decide +kernel), List.mem_of_getElem? (i := 412) (by decide +kernel)⟩
theorem lw_p7 : lw_okq (⟨"LetterDays$Ways", "sumOfDays", "()I"⟩, 13) := ⟨⟨by decide +kernel, by decide +kernel⟩, List.mem_of_getElem? (i := 88) (by decide +kernel), List.mem_of_getElem? (i := 417) (by decide +kernel), List.mem_of_getElem? (i := 418) (by decide +kernel)⟩
theorem lw_p8 : lw_okq (⟨"LetterDays$Ways", "lowerGaps", "(I)V"⟩, 13) := ⟨⟨by decide +kernel, by decide +kernel⟩, List.mem_of_getElem? (i := 88) (by decide +kernel), List.mem_of_getElem? (i := 421) (by decide +kernel), List.mem_of_getElem? (i := 422) (by decide +kernel)⟩
theorem lw_p9 : lw_okq (⟨"LetterDays$Ways", "sweepDown", "(I)V"⟩, 13) := ⟨⟨by decide +kernel, by decide +kernel⟩, List.mem_of_getElem? (i := 88) (by decide +kernel), List.mem_of_getElem? (i := 425) (by decide +kernel), List.mem_of_getElem? (i := 426) (by decide +kernel)⟩
theorem lw_p10 : lw_okq (⟨"LetterDays$Orders", "comesNext", "(II)Z"⟩, 3) := ⟨⟨by decide +kernel, by decide +kernel⟩, List.mem_of_getElem? (i := 208) (by decide +kernel), List.mem_of_getElem? (i := 472) (by decide +kernel), List.mem_of_getElem? (i := 473) (by decide +kernel)⟩
theorem lw_p11 : lw_okq (⟨"LetterDays$Orders", "firstNext", "(I)I"⟩, 3) := ⟨⟨by decide +kernel, by decide +kernel⟩, List.mem_of_getElem? (i := 208) (by decide +kernel), List.mem_of_getElem? (i := 484) (by decide +kernel), List.mem_of_getElem? (i := 485) (by decide +kernel)⟩
theorem lw_p12 : lw_okq (⟨"LetterDays$Knots", "isBeatenBy", "(I)Z"⟩, 9) := ⟨⟨by decide +kernel, by decide +kernel⟩, List.mem_of_getElem? (i := 171) (by decide +kernel), List.mem_of_getElem? (i := 499) (by decide +kernel), List.mem_of_getElem? (i := 500) (by decide +kernel)⟩
theorem lw_p13 : lw_okq (⟨"LetterDays$Knots", "become", "(I)V"⟩, 9) := ⟨⟨by decide +kernel, by decide +kernel⟩, List.mem_of_getElem? (i := 171) (by decide +kernel), List.mem_of_getElem? (i := 513) (by decide +kernel), List.mem_of_getElem? (i := 514) (by decide +kernel)⟩
theorem lw_p14 : lw_okq (⟨"LetterDays$Knots", "agreeing", "(I)Z"⟩, 9) := ⟨⟨by decide +kernel, by decide +kernel⟩, List.mem_of_getElem? (i := 171) (by decide +kernel), List.mem_of_getElem? (i := 518) (by decide +kernel), List.mem_of_getElem? (i := 519) (by decide +kernel)⟩
theorem lw_p15 : lw_okq (⟨"LetterDays", "leavingOf", "(LLetterDays$Bundle;)I"⟩, 6) := ⟨⟨by decide +kernel, by decide +kernel⟩, List.mem_of_getElem? (i := 13) (by decide +kernel), List.mem_of_getElem? (i := 568) (by decide +kernel), List.mem_of_getElem? (i := 569) (by decide +kernel)⟩
def lw_privs_1 : List (MethodName × Nat) := [(⟨"LetterDays", "forgetAnswers", "()V"⟩, 6), (⟨"LetterDays", "bundlesWith", "(I)I"⟩, 6), (⟨"LetterDays$Web", "heed", "(IIII)V"⟩, 9), (⟨"LetterDays$Web", "link", "(III)V"⟩, 9), (⟨"LetterDays$Web", "notBehind", "(II)I"⟩, 9), (⟨"LetterDays$Ways", "sweep", "(I)V"⟩, 13), (⟨"LetterDays$Ways", "sweepUp", "(I)V"⟩, 13), (⟨"LetterDays$Ways", "sumOfDays", "()I"⟩, 13), (⟨"LetterDays$Ways", "lowerGaps", "(I)V"⟩, 13), (⟨"LetterDays$Ways", "sweepDown", "(I)V"⟩, 13), (⟨"LetterDays$Orders", "comesNext", "(II)Z"⟩, 3), (⟨"LetterDays$Orders", "firstNext", "(I)I"⟩, 3), (⟨"LetterDays$Knots", "isBeatenBy", "(I)Z"⟩, 9), (⟨"LetterDays$Knots", "become", "(I)V"⟩, 9), (⟨"LetterDays$Knots", "agreeing", "(I)Z"⟩, 9), (⟨"LetterDays", "leavingOf", "(LLetterDays$Bundle;)I"⟩, 6)]
theorem lw_r1 : ∀ q ∈ lw_privs_1, lw_okq q := List.forall_mem_cons.mpr ⟨lw_p0, List.forall_mem_cons.mpr ⟨lw_p1, List.forall_mem_cons.mpr ⟨lw_p2, List.forall_mem_cons.mpr ⟨lw_p3, List.forall_mem_cons.mpr ⟨lw_p4, List.forall_mem_cons.mpr ⟨lw_p5, List.forall_mem_cons.mpr ⟨lw_p6, List.forall_mem_cons.mpr ⟨lw_p7, List.forall_mem_cons.mpr ⟨lw_p8, List.forall_mem_cons.mpr ⟨lw_p9, List.forall_mem_cons.mpr ⟨lw_p10, List.forall_mem_cons.mpr ⟨lw_p11, List.forall_mem_cons.mpr ⟨lw_p12, List.forall_mem_cons.mpr ⟨lw_p13, List.forall_mem_cons.mpr ⟨lw_p14, List.forall_mem_cons.mpr ⟨lw_p15, fun _ h => absurd h List.not_mem_nil⟩⟩⟩⟩⟩⟩⟩⟩⟩⟩⟩⟩⟩⟩⟩⟩
theorem lw_p16 : lw_okq (⟨"LetterDaysModel", "isLetter", "(I)Z"⟩, 18) := ⟨⟨by decide +kernel, by decide +kernel⟩, List.mem_of_getElem? (i := 589) (by decide +kernel), List.mem_of_getElem? (i := 665) (by decide +kernel), List.mem_of_getElem? (i := 666) (by decide +kernel)⟩
theorem lw_p17 : lw_okq (⟨"LetterDaysModel", "isNote", "(I)Z"⟩, 18) := ⟨⟨by decide +kernel, by decide +kernel⟩, List.mem_of_getElem? (i := 589) (by decide +kernel), List.mem_of_getElem? (i := 677) (by decide +kernel), List.mem_of_getElem? (i := 678) (by decide +kernel)⟩
theorem lw_p18 : lw_okq (⟨"LetterDaysModel", "placeIn", "(II)I"⟩, 18) := ⟨⟨by decide +kernel, by decide +kernel⟩, List.mem_of_getElem? (i := 589) (by decide +kernel), List.mem_of_getElem? (i := 689) (by decide +kernel), List.mem_of_getElem? (i := 690) (by decide +kernel)⟩
theorem lw_p19 : lw_okq (⟨"LetterDaysModel", "takesOut", "(II)V"⟩, 18) := ⟨⟨by decide +kernel, by decide +kernel⟩, List.mem_of_getElem? (i := 589) (by decide +kernel), List.mem_of_getElem? (i := 693) (by decide +kernel), List.mem_of_getElem? (i := 694) (by decide +kernel)⟩
theorem lw_p20 : lw_okq (⟨"LetterDaysModel", "notesAbout", "(I)I"⟩, 18) := ⟨⟨by decide +kernel, by decide +kernel⟩, List.mem_of_getElem? (i := 589) (by decide +kernel), List.mem_of_getElem? (i := 701) (by decide +kernel), List.mem_of_getElem? (i := 702) (by decide +kernel)⟩
theorem lw_p21 : lw_okq (⟨"LetterDaysModel", "bundlesOf", "(I)I"⟩, 18) := ⟨⟨by decide +kernel, by decide +kernel⟩, List.mem_of_getElem? (i := 589) (by decide +kernel), List.mem_of_getElem? (i := 705) (by decide +kernel), List.mem_of_getElem? (i := 706) (by decide +kernel)⟩
theorem lw_p22 : lw_okq (⟨"LetterDaysModel", "closeNow", "()Z"⟩, 18) := ⟨⟨by decide +kernel, by decide +kernel⟩, List.mem_of_getElem? (i := 589) (by decide +kernel), List.mem_of_getElem? (i := 717) (by decide +kernel), List.mem_of_getElem? (i := 718) (by decide +kernel)⟩
theorem lw_p23 : lw_okq (⟨"LetterDaysModel", "setInForce", "()I"⟩, 18) := ⟨⟨by decide +kernel, by decide +kernel⟩, List.mem_of_getElem? (i := 589) (by decide +kernel), List.mem_of_getElem? (i := 721) (by decide +kernel), List.mem_of_getElem? (i := 722) (by decide +kernel)⟩
theorem lw_p24 : lw_okq (⟨"LetterDaysModel", "close", "(III)Z"⟩, 18) := ⟨⟨by decide +kernel, by decide +kernel⟩, List.mem_of_getElem? (i := 589) (by decide +kernel), List.mem_of_getElem? (i := 725) (by decide +kernel), List.mem_of_getElem? (i := 726) (by decide +kernel)⟩
theorem lw_p25 : lw_okq (⟨"LetterDaysModel", "begins", "(I)V"⟩, 18) := ⟨⟨by decide +kernel, by decide +kernel⟩, List.mem_of_getElem? (i := 589) (by decide +kernel), List.mem_of_getElem? (i := 729) (by decide +kernel), List.mem_of_getElem? (i := 730) (by decide +kernel)⟩
theorem lw_p26 : lw_okq (⟨"LetterDaysModel", "bounds", "(III)V"⟩, 18) := ⟨⟨by decide +kernel, by decide +kernel⟩, List.mem_of_getElem? (i := 589) (by decide +kernel), List.mem_of_getElem? (i := 734) (by decide +kernel), List.mem_of_getElem? (i := 735) (by decide +kernel)⟩
theorem lw_p27 : lw_okq (⟨"LetterDaysModel", "takesNote", "(I)V"⟩, 18) := ⟨⟨by decide +kernel, by decide +kernel⟩, List.mem_of_getElem? (i := 589) (by decide +kernel), List.mem_of_getElem? (i := 738) (by decide +kernel), List.mem_of_getElem? (i := 739) (by decide +kernel)⟩
theorem lw_p28 : lw_okq (⟨"LetterDaysModel", "draws", "()Z"⟩, 18) := ⟨⟨by decide +kernel, by decide +kernel⟩, List.mem_of_getElem? (i := 589) (by decide +kernel), List.mem_of_getElem? (i := 742) (by decide +kernel), List.mem_of_getElem? (i := 743) (by decide +kernel)⟩
theorem lw_p29 : lw_okq (⟨"LetterDaysModel", "isNode", "(I)Z"⟩, 18) := ⟨⟨by decide +kernel, by decide +kernel⟩, List.mem_of_getElem? (i := 589) (by decide +kernel), List.mem_of_getElem? (i := 746) (by decide +kernel), List.mem_of_getElem? (i := 747) (by decide +kernel)⟩
theorem lw_p30 : lw_okq (⟨"LetterDaysModel", "bindsWeek", "()Z"⟩, 18) := ⟨⟨by decide +kernel, by decide +kernel⟩, List.mem_of_getElem? (i := 589) (by decide +kernel), List.mem_of_getElem? (i := 750) (by decide +kernel), List.mem_of_getElem? (i := 751) (by decide +kernel)⟩
theorem lw_p31 : lw_okq (⟨"LetterDaysModel", "earliest", "(I)I"⟩, 18) := ⟨⟨by decide +kernel, by decide +kernel⟩, List.mem_of_getElem? (i := 589) (by decide +kernel), List.mem_of_getElem? (i := 758) (by decide +kernel), List.mem_of_getElem? (i := 759) (by decide +kernel)⟩
def lw_privs_2 : List (MethodName × Nat) := [(⟨"LetterDaysModel", "isLetter", "(I)Z"⟩, 18), (⟨"LetterDaysModel", "isNote", "(I)Z"⟩, 18), (⟨"LetterDaysModel", "placeIn", "(II)I"⟩, 18), (⟨"LetterDaysModel", "takesOut", "(II)V"⟩, 18), (⟨"LetterDaysModel", "notesAbout", "(I)I"⟩, 18), (⟨"LetterDaysModel", "bundlesOf", "(I)I"⟩, 18), (⟨"LetterDaysModel", "closeNow", "()Z"⟩, 18), (⟨"LetterDaysModel", "setInForce", "()I"⟩, 18), (⟨"LetterDaysModel", "close", "(III)Z"⟩, 18), (⟨"LetterDaysModel", "begins", "(I)V"⟩, 18), (⟨"LetterDaysModel", "bounds", "(III)V"⟩, 18), (⟨"LetterDaysModel", "takesNote", "(I)V"⟩, 18), (⟨"LetterDaysModel", "draws", "()Z"⟩, 18), (⟨"LetterDaysModel", "isNode", "(I)Z"⟩, 18), (⟨"LetterDaysModel", "bindsWeek", "()Z"⟩, 18), (⟨"LetterDaysModel", "earliest", "(I)I"⟩, 18)]
theorem lw_r2 : ∀ q ∈ lw_privs_2, lw_okq q := List.forall_mem_cons.mpr ⟨lw_p16, List.forall_mem_cons.mpr ⟨lw_p17, List.forall_mem_cons.mpr ⟨lw_p18, List.forall_mem_cons.mpr ⟨lw_p19, List.forall_mem_cons.mpr ⟨lw_p20, List.forall_mem_cons.mpr ⟨lw_p21, List.forall_mem_cons.mpr ⟨lw_p22, List.forall_mem_cons.mpr ⟨lw_p23, List.forall_mem_cons.mpr ⟨lw_p24, List.forall_mem_cons.mpr ⟨lw_p25, List.forall_mem_cons.mpr ⟨lw_p26, List.forall_mem_cons.mpr ⟨lw_p27, List.forall_mem_cons.mpr ⟨lw_p28, List.forall_mem_cons.mpr ⟨lw_p29, List.forall_mem_cons.mpr ⟨lw_p30, List.forall_mem_cons.mpr ⟨lw_p31, fun _ h => absurd h List.not_mem_nil⟩⟩⟩⟩⟩⟩⟩⟩⟩⟩⟩⟩⟩⟩⟩⟩
theorem lw_p32 : lw_okq (⟨"LetterDaysModel", "latest", "(I)I"⟩, 18) := ⟨⟨by decide +kernel, by decide +kernel⟩, List.mem_of_getElem? (i := 589) (by decide +kernel), List.mem_of_getElem? (i := 762) (by decide +kernel), List.mem_of_getElem? (i := 763) (by decide +kernel)⟩
theorem lw_p33 : lw_okq (⟨"LetterDaysModel", "findGaps", "(I)V"⟩, 18) := ⟨⟨by decide +kernel, by decide +kernel⟩, List.mem_of_getElem? (i := 589) (by decide +kernel), List.mem_of_getElem? (i := 778) (by decide +kernel), List.mem_of_getElem? (i := 779) (by decide +kernel)⟩
theorem lw_p34 : lw_okq (⟨"LetterDaysModel", "findAhead", "()V"⟩, 18) := ⟨⟨by decide +kernel, by decide +kernel⟩, List.mem_of_getElem? (i := 589) (by decide +kernel), List.mem_of_getElem? (i := 786) (by decide +kernel), List.mem_of_getElem? (i := 787) (by decide +kernel)⟩
theorem lw_p35 : lw_okq (⟨"LetterDaysModel", "weightBy", "(I)I"⟩, 18) := ⟨⟨by decide +kernel, by decide +kernel⟩, List.mem_of_getElem? (i := 589) (by decide +kernel), List.mem_of_getElem? (i := 802) (by decide +kernel), List.mem_of_getElem? (i := 803) (by decide +kernel)⟩
theorem lw_p36 : lw_okq (⟨"LetterDaysModel", "worstOf", "(I)I"⟩, 18) := ⟨⟨by decide +kernel, by decide +kernel⟩, List.mem_of_getElem? (i := 589) (by decide +kernel), List.mem_of_getElem? (i := 817) (by decide +kernel), List.mem_of_getElem? (i := 818) (by decide +kernel)⟩
theorem lw_p37 : lw_okq (⟨"LetterDaysModel", "widthAll", "()I"⟩, 18) := ⟨⟨by decide +kernel, by decide +kernel⟩, List.mem_of_getElem? (i := 589) (by decide +kernel), List.mem_of_getElem? (i := 821) (by decide +kernel), List.mem_of_getElem? (i := 822) (by decide +kernel)⟩
theorem lw_p38 : lw_okq (⟨"LetterDaysModel", "putsIn", "(III)V"⟩, 18) := ⟨⟨by decide +kernel, by decide +kernel⟩, List.mem_of_getElem? (i := 589) (by decide +kernel), List.mem_of_getElem? (i := 836) (by decide +kernel), List.mem_of_getElem? (i := 837) (by decide +kernel)⟩
theorem lw_p39 : lw_okq (⟨"LetterDaysModel", "setIn", "(I)I"⟩, 18) := ⟨⟨by decide +kernel, by decide +kernel⟩, List.mem_of_getElem? (i := 589) (by decide +kernel), List.mem_of_getElem? (i := 848) (by decide +kernel), List.mem_of_getElem? (i := 849) (by decide +kernel)⟩
def lw_privs_3 : List (MethodName × Nat) := [(⟨"LetterDaysModel", "latest", "(I)I"⟩, 18), (⟨"LetterDaysModel", "findGaps", "(I)V"⟩, 18), (⟨"LetterDaysModel", "findAhead", "()V"⟩, 18), (⟨"LetterDaysModel", "weightBy", "(I)I"⟩, 18), (⟨"LetterDaysModel", "worstOf", "(I)I"⟩, 18), (⟨"LetterDaysModel", "widthAll", "()I"⟩, 18), (⟨"LetterDaysModel", "putsIn", "(III)V"⟩, 18), (⟨"LetterDaysModel", "setIn", "(I)I"⟩, 18)]
theorem lw_r3 : ∀ q ∈ lw_privs_3, lw_okq q := List.forall_mem_cons.mpr ⟨lw_p32, List.forall_mem_cons.mpr ⟨lw_p33, List.forall_mem_cons.mpr ⟨lw_p34, List.forall_mem_cons.mpr ⟨lw_p35, List.forall_mem_cons.mpr ⟨lw_p36, List.forall_mem_cons.mpr ⟨lw_p37, List.forall_mem_cons.mpr ⟨lw_p38, List.forall_mem_cons.mpr ⟨lw_p39, fun _ h => absurd h List.not_mem_nil⟩⟩⟩⟩⟩⟩⟩⟩
def lw_privs : List (MethodName × Nat) := lw_privs_1 ++ (lw_privs_2 ++ (lw_privs_3))
def lw_tbl : List Cond := k2_sels lw_privs ++ tables_1
theorem lw_privs_ok : ∀ q ∈ lw_privs, lw_okq q := by
  show ∀ q ∈ lw_privs_1 ++ (lw_privs_2 ++ (lw_privs_3)), lw_okq q
  exact List.forall_mem_append.mpr ⟨lw_r1, List.forall_mem_append.mpr ⟨lw_r2, lw_r3⟩⟩
-- ===== end of PART A; then your names; then what follows =====
end
section
theorem am_inW (ws : List Jvm.Cond) (ps : List Nat) (h : ws = ps.filterMap (fun i => lw_tbl[i]?)) : ∀ w ∈ ws, w ∈ lw_tbl := by
  intro w hw
  rw [h] at hw
  obtain ⟨i, -, hi⟩ := List.mem_filterMap.mp hw
  exact List.mem_of_getElem? hi
/-- the words that a call hands on -/
def am_tbl : List Jvm.Cond := lw_tbl.filter goodWord
theorem am_inG {ws : List Jvm.Cond} (h : ∀ w ∈ ws, w ∈ lw_tbl) (hg : ws.all goodWord = true) : ∀ w ∈ ws, w ∈ am_tbl := fun w hw => List.mem_filter.mpr ⟨h w hw, List.all_eq_true.mp hg w hw⟩
def RX0 : String := "LetterDays$Bundle"
def TX0 : u_T := fun k => match k with
  | 0 => ("LetterDays$Bundle", "size", "I", false)
  | _ => ("LetterDays$Bundle", "row", "[I", true)
def tyX0 : Nat → FieldType := fun k => match k with
  | 0 => .int
  | _ => .array .int
abbrev wsX00 : List Cond := u_ws RX0 TX0 2
theorem nmX0 : ∀ a, a < 2 → ∀ b, b < 2 → a ≠ b → (TX0 a).2.1 ≠ (TX0 b).2.1 := by decide +kernel
theorem tyX0_ok : ∀ k, k < 2 → parseFieldDescriptor (TX0 k).2.2.1 = some (tyX0 k) := by decide +kernel
abbrev cX0_init : ByteArray := prog_2_method_1_code
def yX0_init : MethodName := ⟨RX0, "<init>", "()V"⟩
abbrev cX0_asSet : ByteArray := prog_2_method_2_code
def yX0_asSet : MethodName := ⟨RX0, "asSet", "()I"⟩
abbrev cX0_holds : ByteArray := prog_2_method_3_code
def yX0_holds : MethodName := ⟨RX0, "holds", "(I)Z"⟩
abbrev cX0_placeFor : ByteArray := prog_2_method_4_code
def yX0_placeFor : MethodName := ⟨RX0, "placeFor", "(I[I)I"⟩
abbrev cX0_insert : ByteArray := prog_2_method_5_code
def yX0_insert : MethodName := ⟨RX0, "insert", "(II)V"⟩
abbrev cX0_remove : ByteArray := prog_2_method_6_code
def yX0_remove : MethodName := ⟨RX0, "remove", "(I)V"⟩
abbrev cX0_receive : ByteArray := prog_2_method_7_code
def yX0_receive : MethodName := ⟨RX0, "receive", "(I)V"⟩
def RX1 : String := "LetterDays$Knots"
def TX1 : u_T := fun k => match k with
  | 0 => ("LetterDays$Knots", "fresh", "Z", false)
  | 1 => ("LetterDays$Knots", "letters", "LLetterDays$Letters;", true)
  | 2 => ("LetterDays$Knots", "notes", "LLetterDays$Notes;", true)
  | 3 => ("LetterDays$Knots", "web", "LLetterDays$Web;", true)
  | 4 => ("LetterDays$Knots", "days", "[I", true)
  | 5 => ("LetterDays$Knots", "any", "Z", false)
  | 6 => ("LetterDays$Knots", "bestSet", "I", false)
  | 7 => ("LetterDays$Knots", "bestWeight", "I", false)
  | _ => ("LetterDays$Knots", "bestCount", "I", false)
def tyX1 : Nat → FieldType := fun k => match k with
  | 0 => .boolean
  | 1 => .object "LetterDays$Letters"
  | 2 => .object "LetterDays$Notes"
  | 3 => .object "LetterDays$Web"
  | 4 => .array .int
  | 5 => .boolean
  | 6 => .int
  | 7 => .int
  | _ => .int
abbrev wsX10 : List Cond := u_ws RX1 TX1 9
theorem nmX1 : ∀ a, a < 9 → ∀ b, b < 9 → a ≠ b → (TX1 a).2.1 ≠ (TX1 b).2.1 := by decide +kernel
theorem tyX1_ok : ∀ k, k < 9 → parseFieldDescriptor (TX1 k).2.2.1 = some (tyX1 k) := by decide +kernel
abbrev cX1_init : ByteArray := prog_3_method_1_code
def yX1_init : MethodName := ⟨RX1, "<init>", "(LLetterDays$Letters;LLetterDays$Notes;)V"⟩
abbrev cX1_lightest : ByteArray := prog_3_method_2_code
def yX1_lightest : MethodName := ⟨RX1, "lightest", "()I"⟩
abbrev cX1_unsparable : ByteArray := prog_3_method_3_code
def yX1_unsparable : MethodName := ⟨RX1, "unsparable", "()I"⟩
abbrev cX1_seek : ByteArray := prog_3_method_4_code
def yX1_seek : MethodName := ⟨RX1, "seek", "(LLetterDays$Knots;III)V"⟩
abbrev cX1_isBeatenBy : ByteArray := prog_3_method_5_code
def yX1_isBeatenBy : MethodName := ⟨RX1, "isBeatenBy", "(I)Z"⟩
abbrev cX1_become : ByteArray := prog_3_method_6_code
def yX1_become : MethodName := ⟨RX1, "become", "(I)V"⟩
abbrev cX1_agreeing : ByteArray := prog_3_method_7_code
def yX1_agreeing : MethodName := ⟨RX1, "agreeing", "(I)Z"⟩
def RX2 : String := "LetterDays$Letters"
def TX2 : u_T := fun k => match k with
  | 0 => ("LetterDays$Letters", "count", "I", false)
  | 1 => ("LetterDays$Letters", "first", "[I", true)
  | _ => ("LetterDays$Letters", "last", "[I", true)
def tyX2 : Nat → FieldType := fun k => match k with
  | 0 => .int
  | 1 => .array .int
  | _ => .array .int
abbrev wsX20 : List Cond := u_ws RX2 TX2 3
theorem nmX2 : ∀ a, a < 3 → ∀ b, b < 3 → a ≠ b → (TX2 a).2.1 ≠ (TX2 b).2.1 := by decide +kernel
theorem tyX2_ok : ∀ k, k < 3 → parseFieldDescriptor (TX2 k).2.2.1 = some (tyX2 k) := by decide +kernel
abbrev cX2_init : ByteArray := prog_4_method_1_code
def yX2_init : MethodName := ⟨RX2, "<init>", "()V"⟩
abbrev cX2_has : ByteArray := prog_4_method_2_code
def yX2_has : MethodName := ⟨RX2, "has", "(I)Z"⟩
def RX3 : String := "LetterDays$Notes"
def TX3 : u_T := fun k => match k with
  | 0 => ("LetterDays$Notes", "count", "I", false)
  | 1 => ("LetterDays$Notes", "inForce", "I", false)
  | 2 => ("LetterDays$Notes", "sort", "[I", true)
  | 3 => ("LetterDays$Notes", "one", "[I", true)
  | 4 => ("LetterDays$Notes", "other", "[I", true)
  | 5 => ("LetterDays$Notes", "number", "[I", true)
  | _ => ("LetterDays$Notes", "weight", "[I", true)
def tyX3 : Nat → FieldType := fun k => match k with
  | 0 => .int
  | 1 => .int
  | 2 => .array .int
  | 3 => .array .int
  | 4 => .array .int
  | 5 => .array .int
  | _ => .array .int
abbrev wsX30 : List Cond := u_ws RX3 TX3 7
theorem nmX3 : ∀ a, a < 7 → ∀ b, b < 7 → a ≠ b → (TX3 a).2.1 ≠ (TX3 b).2.1 := by decide +kernel
theorem tyX3_ok : ∀ k, k < 7 → parseFieldDescriptor (TX3 k).2.2.1 = some (tyX3 k) := by decide +kernel
abbrev cX3_init : ByteArray := prog_5_method_1_code
def yX3_init : MethodName := ⟨RX3, "<init>", "()V"⟩
abbrev cX3_has : ByteArray := prog_5_method_2_code
def yX3_has : MethodName := ⟨RX3, "has", "(I)Z"⟩
abbrev cX3_isInForce : ByteArray := prog_5_method_3_code
def yX3_isInForce : MethodName := ⟨RX3, "isInForce", "(I)Z"⟩
abbrev cX3_names : ByteArray := prog_5_method_4_code
def yX3_names : MethodName := ⟨RX3, "names", "(II)Z"⟩
abbrev cX3_anyNames : ByteArray := prog_5_method_5_code
def yX3_anyNames : MethodName := ⟨RX3, "anyNames", "(I)Z"⟩
abbrev cX3_inForceNaming : ByteArray := prog_5_method_6_code
def yX3_inForceNaming : MethodName := ⟨RX3, "inForceNaming", "(I)I"⟩
abbrev cX3_weightOf : ByteArray := prog_5_method_7_code
def yX3_weightOf : MethodName := ⟨RX3, "weightOf", "(I)I"⟩
def RX4 : String := "LetterDays$Orders"
def TX4 : u_T := fun k => match k with
  | 0 => ("LetterDays$Orders", "count", "I", false)
  | 1 => ("LetterDays$Orders", "before", "[I", true)
  | _ => ("LetterDays$Orders", "startsWith", "[I", true)
def tyX4 : Nat → FieldType := fun k => match k with
  | 0 => .int
  | 1 => .array .int
  | _ => .array .int
abbrev wsX40 : List Cond := u_ws RX4 TX4 3
theorem nmX4 : ∀ a, a < 3 → ∀ b, b < 3 → a ≠ b → (TX4 a).2.1 ≠ (TX4 b).2.1 := by decide +kernel
theorem tyX4_ok : ∀ k, k < 3 → parseFieldDescriptor (TX4 k).2.2.1 = some (tyX4 k) := by decide +kernel
abbrev cX4_init : ByteArray := prog_6_method_1_code
def yX4_init : MethodName := ⟨RX4, "<init>", "()V"⟩
abbrev cX4_take : ByteArray := prog_6_method_2_code
def yX4_take : MethodName := ⟨RX4, "take", "(LLetterDays$Ways;I)V"⟩
abbrev cX4_howMany : ByteArray := prog_6_method_3_code
def yX4_howMany : MethodName := ⟨RX4, "howMany", "()I"⟩
abbrev cX4_ofFirst : ByteArray := prog_6_method_4_code
def yX4_ofFirst : MethodName := ⟨RX4, "ofFirst", "(I)I"⟩
abbrev cX4_firstNext : ByteArray := prog_6_method_5_code
def yX4_firstNext : MethodName := ⟨RX4, "firstNext", "(I)I"⟩
abbrev cX4_comesNext : ByteArray := prog_6_method_6_code
def yX4_comesNext : MethodName := ⟨RX4, "comesNext", "(II)Z"⟩
def RX5 : String := "LetterDays$Ways"
def TX5 : u_T := fun k => match k with
  | 0 => ("LetterDays$Ways", "fresh", "Z", false)
  | 1 => ("LetterDays$Ways", "earliest", "[I", true)
  | 2 => ("LetterDays$Ways", "latest", "[I", true)
  | 3 => ("LetterDays$Ways", "letters", "LLetterDays$Letters;", true)
  | 4 => ("LetterDays$Ways", "notes", "LLetterDays$Notes;", true)
  | 5 => ("LetterDays$Ways", "web", "LLetterDays$Web;", true)
  | 6 => ("LetterDays$Ways", "found", "Z", false)
  | 7 => ("LetterDays$Ways", "swept", "I", false)
  | 8 => ("LetterDays$Ways", "days", "[I", true)
  | 9 => ("LetterDays$Ways", "leastSum", "[I", true)
  | 10 => ("LetterDays$Ways", "open", "[I", true)
  | 11 => ("LetterDays$Ways", "gaps", "[I", true)
  | _ => ("LetterDays$Ways", "rest", "[I", true)
def tyX5 : Nat → FieldType := fun k => match k with
  | 0 => .boolean
  | 1 => .array .int
  | 2 => .array .int
  | 3 => .object "LetterDays$Letters"
  | 4 => .object "LetterDays$Notes"
  | 5 => .object "LetterDays$Web"
  | 6 => .boolean
  | 7 => .int
  | 8 => .array .int
  | 9 => .array .int
  | 10 => .array .int
  | 11 => .array .int
  | _ => .array .int
abbrev wsX50 : List Cond := u_ws RX5 TX5 13
theorem nmX5 : ∀ a, a < 13 → ∀ b, b < 13 → a ≠ b → (TX5 a).2.1 ≠ (TX5 b).2.1 := by decide +kernel
theorem tyX5_ok : ∀ k, k < 13 → parseFieldDescriptor (TX5 k).2.2.1 = some (tyX5 k) := by decide +kernel
abbrev cX5_init : ByteArray := prog_7_method_1_code
def yX5_init : MethodName := ⟨RX5, "<init>", "(LLetterDays$Letters;LLetterDays$Notes;)V"⟩
abbrev cX5_exist : ByteArray := prog_7_method_2_code
def yX5_exist : MethodName := ⟨RX5, "exist", "()Z"⟩
abbrev cX5_allow : ByteArray := prog_7_method_3_code
def yX5_allow : MethodName := ⟨RX5, "allow", "(II)Z"⟩
abbrev cX5_daysOpenTo : ByteArray := prog_7_method_4_code
def yX5_daysOpenTo : MethodName := ⟨RX5, "daysOpenTo", "(I)I"⟩
abbrev cX5_leastGap : ByteArray := prog_7_method_5_code
def yX5_leastGap : MethodName := ⟨RX5, "leastGap", "(II)I"⟩
abbrev cX5_greatestRest : ByteArray := prog_7_method_6_code
def yX5_greatestRest : MethodName := ⟨RX5, "greatestRest", "(I)I"⟩
abbrev cX5_thoseAheadOf : ByteArray := prog_7_method_7_code
def yX5_thoseAheadOf : MethodName := ⟨RX5, "thoseAheadOf", "(I)I"⟩
abbrev cX5_thoseBehind : ByteArray := prog_7_method_8_code
def yX5_thoseBehind : MethodName := ⟨RX5, "thoseBehind", "(I)I"⟩
abbrev cX5_sweep : ByteArray := prog_7_method_9_code
def yX5_sweep : MethodName := ⟨RX5, "sweep", "(I)V"⟩
abbrev cX5_sweepUp : ByteArray := prog_7_method_10_code
def yX5_sweepUp : MethodName := ⟨RX5, "sweepUp", "(I)V"⟩
abbrev cX5_lowerGaps : ByteArray := prog_7_method_11_code
def yX5_lowerGaps : MethodName := ⟨RX5, "lowerGaps", "(I)V"⟩
abbrev cX5_sweepDown : ByteArray := prog_7_method_12_code
def yX5_sweepDown : MethodName := ⟨RX5, "sweepDown", "(I)V"⟩
abbrev cX5_sumOfDays : ByteArray := prog_7_method_13_code
def yX5_sumOfDays : MethodName := ⟨RX5, "sumOfDays", "()I"⟩
def RX6 : String := "LetterDays$Web"
def TX6 : u_T := fun k => match k with
  | 0 => ("LetterDays$Web", "letters", "I", false)
  | 1 => ("LetterDays$Web", "torn", "Z", false)
  | 2 => ("LetterDays$Web", "low", "[I", true)
  | 3 => ("LetterDays$Web", "high", "[I", true)
  | 4 => ("LetterDays$Web", "weekday", "[I", true)
  | 5 => ("LetterDays$Web", "links", "I", false)
  | 6 => ("LetterDays$Web", "earlier", "[I", true)
  | 7 => ("LetterDays$Web", "later", "[I", true)
  | _ => ("LetterDays$Web", "by", "[I", true)
def tyX6 : Nat → FieldType := fun k => match k with
  | 0 => .int
  | 1 => .boolean
  | 2 => .array .int
  | 3 => .array .int
  | 4 => .array .int
  | 5 => .int
  | 6 => .array .int
  | 7 => .array .int
  | _ => .array .int
abbrev wsX60 : List Cond := u_ws RX6 TX6 9
theorem nmX6 : ∀ a, a < 9 → ∀ b, b < 9 → a ≠ b → (TX6 a).2.1 ≠ (TX6 b).2.1 := by decide +kernel
theorem tyX6_ok : ∀ k, k < 9 → parseFieldDescriptor (TX6 k).2.2.1 = some (tyX6 k) := by decide +kernel
abbrev cX6_init : ByteArray := prog_8_method_1_code
def yX6_init : MethodName := ⟨RX6, "<init>", "()V"⟩
abbrev cX6_weave : ByteArray := prog_8_method_2_code
def yX6_weave : MethodName := ⟨RX6, "weave", "(LLetterDays$Letters;LLetterDays$Notes;I)V"⟩
abbrev cX6_heed : ByteArray := prog_8_method_3_code
def yX6_heed : MethodName := ⟨RX6, "heed", "(IIII)V"⟩
abbrev cX6_link : ByteArray := prog_8_method_4_code
def yX6_link : MethodName := ⟨RX6, "link", "(III)V"⟩
abbrev cX6_least : ByteArray := prog_8_method_5_code
def yX6_least : MethodName := ⟨RX6, "least", "([I)Z"⟩
abbrev cX6_greatest : ByteArray := prog_8_method_6_code
def yX6_greatest : MethodName := ⟨RX6, "greatest", "([I)V"⟩
abbrev cX6_rise : ByteArray := prog_8_method_7_code
def yX6_rise : MethodName := ⟨RX6, "rise", "([I)Z"⟩
abbrev cX6_sink : ByteArray := prog_8_method_8_code
def yX6_sink : MethodName := ⟨RX6, "sink", "([I)V"⟩
abbrev cX6_notBefore : ByteArray := prog_8_method_9_code
def yX6_notBefore : MethodName := ⟨RX6, "notBefore", "(II)I"⟩
abbrev cX6_notBehind : ByteArray := prog_8_method_10_code
def yX6_notBehind : MethodName := ⟨RX6, "notBehind", "(II)I"⟩
def RX7 : String := "LetterDays"
def TX7 : u_T := fun k => match k with
  | 0 => ("LetterDays", "letters", "LLetterDays$Letters;", true)
  | 1 => ("LetterDays", "notes", "LLetterDays$Notes;", true)
  | 2 => ("LetterDays", "ways", "LLetterDays$Ways;", true)
  | 3 => ("LetterDays", "knots", "LLetterDays$Knots;", true)
  | 4 => ("LetterDays", "rows", "LLetterDays$Orders;", true)
  | _ => ("LetterDays", "bundles", "[LLetterDays$Bundle;", true)
def tyX7 : Nat → FieldType := fun k => match k with
  | 0 => .object "LetterDays$Letters"
  | 1 => .object "LetterDays$Notes"
  | 2 => .object "LetterDays$Ways"
  | 3 => .object "LetterDays$Knots"
  | 4 => .object "LetterDays$Orders"
  | _ => .array (.object "LetterDays$Bundle")
abbrev wsX70 : List Cond := u_ws RX7 TX7 6
theorem nmX7 : ∀ a, a < 6 → ∀ b, b < 6 → a ≠ b → (TX7 a).2.1 ≠ (TX7 b).2.1 := by decide +kernel
theorem tyX7_ok : ∀ k, k < 6 → parseFieldDescriptor (TX7 k).2.2.1 = some (tyX7 k) := by decide +kernel
abbrev cX7_init : ByteArray := prog_1_method_1_code
def yX7_init : MethodName := ⟨RX7, "<init>", "()V"⟩
abbrev cX7_letter : ByteArray := prog_1_method_2_code
def yX7_letter : MethodName := ⟨RX7, "letter", "(II)I"⟩
abbrev cX7_stamp : ByteArray := prog_1_method_3_code
def yX7_stamp : MethodName := ⟨RX7, "stamp", "(III)I"⟩
abbrev cX7_note : ByteArray := prog_1_method_4_code
def yX7_note : MethodName := ⟨RX7, "note", "(IIIII)I"⟩
abbrev cX7_force : ByteArray := prog_1_method_5_code
def yX7_force : MethodName := ⟨RX7, "force", "(IZ)I"⟩
abbrev cX7_unnote : ByteArray := prog_1_method_6_code
def yX7_unnote : MethodName := ⟨RX7, "unnote", "()I"⟩
abbrev cX7_unletter : ByteArray := prog_1_method_7_code
def yX7_unletter : MethodName := ⟨RX7, "unletter", "()I"⟩
abbrev cX7_ofLetter : ByteArray := prog_1_method_8_code
def yX7_ofLetter : MethodName := ⟨RX7, "ofLetter", "(II)I"⟩
abbrev cX7_ofNote : ByteArray := prog_1_method_9_code
def yX7_ofNote : MethodName := ⟨RX7, "ofNote", "(II)I"⟩
abbrev cX7_agree : ByteArray := prog_1_method_10_code
def yX7_agree : MethodName := ⟨RX7, "agree", "()I"⟩
abbrev cX7_day : ByteArray := prog_1_method_11_code
def yX7_day : MethodName := ⟨RX7, "day", "(II)I"⟩
abbrev cX7_can : ByteArray := prog_1_method_12_code
def yX7_can : MethodName := ⟨RX7, "can", "(II)I"⟩
abbrev cX7_left : ByteArray := prog_1_method_13_code
def yX7_left : MethodName := ⟨RX7, "left", "(I)I"⟩
abbrev cX7_gap : ByteArray := prog_1_method_14_code
def yX7_gap : MethodName := ⟨RX7, "gap", "(II)I"⟩
abbrev cX7_ahead : ByteArray := prog_1_method_15_code
def yX7_ahead : MethodName := ⟨RX7, "ahead", "(II)I"⟩
abbrev cX7_orders : ByteArray := prog_1_method_16_code
def yX7_orders : MethodName := ⟨RX7, "orders", "()I"⟩
abbrev cX7_order : ByteArray := prog_1_method_17_code
def yX7_order : MethodName := ⟨RX7, "order", "(I)I"⟩
abbrev cX7_knot : ByteArray := prog_1_method_18_code
def yX7_knot : MethodName := ⟨RX7, "knot", "(I)I"⟩
abbrev cX7_core : ByteArray := prog_1_method_19_code
def yX7_core : MethodName := ⟨RX7, "core", "()I"⟩
abbrev cX7_worst : ByteArray := prog_1_method_20_code
def yX7_worst : MethodName := ⟨RX7, "worst", "(I)I"⟩
abbrev cX7_best : ByteArray := prog_1_method_21_code
def yX7_best : MethodName := ⟨RX7, "best", "()I"⟩
abbrev cX7_tie : ByteArray := prog_1_method_22_code
def yX7_tie : MethodName := ⟨RX7, "tie", "(II)I"⟩
abbrev cX7_untie : ByteArray := prog_1_method_23_code
def yX7_untie : MethodName := ⟨RX7, "untie", "(II)I"⟩
abbrev cX7_spread : ByteArray := prog_1_method_24_code
def yX7_spread : MethodName := ⟨RX7, "spread", "(I)I"⟩
abbrev cX7_lies : ByteArray := prog_1_method_25_code
def yX7_lies : MethodName := ⟨RX7, "lies", "(II)I"⟩
abbrev cX7_many : ByteArray := prog_1_method_26_code
def yX7_many : MethodName := ⟨RX7, "many", "(I)I"⟩
abbrev cX7_isStamp : ByteArray := prog_1_method_27_code
def yX7_isStamp : MethodName := ⟨RX7, "isStamp", "(II)Z"⟩
abbrev cX7_isBundle : ByteArray := prog_1_method_28_code
def yX7_isBundle : MethodName := ⟨RX7, "isBundle", "(I)Z"⟩
abbrev cX7_isOfTwo : ByteArray := prog_1_method_29_code
def yX7_isOfTwo : MethodName := ⟨RX7, "isOfTwo", "(I)Z"⟩
abbrev cX7_greatestNumber : ByteArray := prog_1_method_30_code
def yX7_greatestNumber : MethodName := ⟨RX7, "greatestNumber", "(I)I"⟩
abbrev cX7_forgetAnswers : ByteArray := prog_1_method_31_code
def yX7_forgetAnswers : MethodName := ⟨RX7, "forgetAnswers", "()V"⟩
abbrev cX7_bundlesWith : ByteArray := prog_1_method_32_code
def yX7_bundlesWith : MethodName := ⟨RX7, "bundlesWith", "(I)I"⟩
abbrev cX7_leavingOf : ByteArray := prog_1_method_33_code
def yX7_leavingOf : MethodName := ⟨RX7, "leavingOf", "(LLetterDays$Bundle;)I"⟩
def RX8 : String := "LetterDaysModel"
def TX8 : u_T := fun k => match k with
  | 0 => ("LetterDaysModel", "letters", "I", false)
  | 1 => ("LetterDaysModel", "firstOf", "[I", true)
  | 2 => ("LetterDaysModel", "lastOf", "[I", true)
  | 3 => ("LetterDaysModel", "notes", "I", false)
  | 4 => ("LetterDaysModel", "sortOf", "[I", true)
  | 5 => ("LetterDaysModel", "aOf", "[I", true)
  | 6 => ("LetterDaysModel", "bOf", "[I", true)
  | 7 => ("LetterDaysModel", "dOf", "[I", true)
  | 8 => ("LetterDaysModel", "weightOf", "[I", true)
  | 9 => ("LetterDaysModel", "isForce", "[Z", true)
  | 10 => ("LetterDaysModel", "most", "[I", true)
  | 11 => ("LetterDaysModel", "weekday", "[I", true)
  | 12 => ("LetterDaysModel", "isWeek", "Z", false)
  | 13 => ("LetterDaysModel", "gapTo", "[I", true)
  | 14 => ("LetterDaysModel", "aheadOf", "[I", true)
  | 15 => ("LetterDaysModel", "waysTo", "[I", true)
  | 16 => ("LetterDaysModel", "manyIn", "[I", true)
  | _ => ("LetterDaysModel", "liesIn", "[I", true)
def tyX8 : Nat → FieldType := fun k => match k with
  | 0 => .int
  | 1 => .array .int
  | 2 => .array .int
  | 3 => .int
  | 4 => .array .int
  | 5 => .array .int
  | 6 => .array .int
  | 7 => .array .int
  | 8 => .array .int
  | 9 => .array .boolean
  | 10 => .array .int
  | 11 => .array .int
  | 12 => .boolean
  | 13 => .array .int
  | 14 => .array .int
  | 15 => .array .int
  | 16 => .array .int
  | _ => .array .int
abbrev wsX80 : List Cond := u_ws RX8 TX8 18
theorem nmX8 : ∀ a, a < 18 → ∀ b, b < 18 → a ≠ b → (TX8 a).2.1 ≠ (TX8 b).2.1 := by decide +kernel
theorem tyX8_ok : ∀ k, k < 18 → parseFieldDescriptor (TX8 k).2.2.1 = some (tyX8 k) := by decide +kernel
abbrev cX8_init : ByteArray := prog_10_method_1_code
def yX8_init : MethodName := ⟨RX8, "<init>", "()V"⟩
abbrev cX8_within : ByteArray := prog_10_method_2_code
def yX8_within : MethodName := ⟨RX8, "within", "(III)Z"⟩
abbrev cX8_isLetter : ByteArray := prog_10_method_3_code
def yX8_isLetter : MethodName := ⟨RX8, "isLetter", "(I)Z"⟩
abbrev cX8_isNote : ByteArray := prog_10_method_4_code
def yX8_isNote : MethodName := ⟨RX8, "isNote", "(I)Z"⟩
abbrev cX8_isStamp : ByteArray := prog_10_method_5_code
def yX8_isStamp : MethodName := ⟨RX8, "isStamp", "(II)Z"⟩
abbrev cX8_letter : ByteArray := prog_10_method_6_code
def yX8_letter : MethodName := ⟨RX8, "letter", "(II)I"⟩
abbrev cX8_stamp : ByteArray := prog_10_method_7_code
def yX8_stamp : MethodName := ⟨RX8, "stamp", "(III)I"⟩
abbrev cX8_note : ByteArray := prog_10_method_8_code
def yX8_note : MethodName := ⟨RX8, "note", "(IIIII)I"⟩
abbrev cX8_force : ByteArray := prog_10_method_9_code
def yX8_force : MethodName := ⟨RX8, "force", "(IZ)I"⟩
abbrev cX8_unnote : ByteArray := prog_10_method_10_code
def yX8_unnote : MethodName := ⟨RX8, "unnote", "()I"⟩
abbrev cX8_unletter : ByteArray := prog_10_method_11_code
def yX8_unletter : MethodName := ⟨RX8, "unletter", "()I"⟩
abbrev cX8_notesAbout : ByteArray := prog_10_method_12_code
def yX8_notesAbout : MethodName := ⟨RX8, "notesAbout", "(I)I"⟩
abbrev cX8_bundlesOf : ByteArray := prog_10_method_13_code
def yX8_bundlesOf : MethodName := ⟨RX8, "bundlesOf", "(I)I"⟩
abbrev cX8_ofLetter : ByteArray := prog_10_method_14_code
def yX8_ofLetter : MethodName := ⟨RX8, "ofLetter", "(II)I"⟩
abbrev cX8_ofNote : ByteArray := prog_10_method_15_code
def yX8_ofNote : MethodName := ⟨RX8, "ofNote", "(II)I"⟩
abbrev cX8_bounds : ByteArray := prog_10_method_16_code
def yX8_bounds : MethodName := ⟨RX8, "bounds", "(III)V"⟩
abbrev cX8_takesNote : ByteArray := prog_10_method_17_code
def yX8_takesNote : MethodName := ⟨RX8, "takesNote", "(I)V"⟩
abbrev cX8_setInForce : ByteArray := prog_10_method_18_code
def yX8_setInForce : MethodName := ⟨RX8, "setInForce", "()I"⟩
abbrev cX8_isNode : ByteArray := prog_10_method_19_code
def yX8_isNode : MethodName := ⟨RX8, "isNode", "(I)Z"⟩
abbrev cX8_begins : ByteArray := prog_10_method_20_code
def yX8_begins : MethodName := ⟨RX8, "begins", "(I)V"⟩
abbrev cX8_draws : ByteArray := prog_10_method_21_code
def yX8_draws : MethodName := ⟨RX8, "draws", "()Z"⟩
abbrev cX8_bindsWeek : ByteArray := prog_10_method_22_code
def yX8_bindsWeek : MethodName := ⟨RX8, "bindsWeek", "()Z"⟩
abbrev cX8_close : ByteArray := prog_10_method_23_code
def yX8_close : MethodName := ⟨RX8, "close", "(III)Z"⟩
abbrev cX8_closeNow : ByteArray := prog_10_method_24_code
def yX8_closeNow : MethodName := ⟨RX8, "closeNow", "()Z"⟩
abbrev cX8_earliest : ByteArray := prog_10_method_25_code
def yX8_earliest : MethodName := ⟨RX8, "earliest", "(I)I"⟩
abbrev cX8_latest : ByteArray := prog_10_method_26_code
def yX8_latest : MethodName := ⟨RX8, "latest", "(I)I"⟩
abbrev cX8_agree : ByteArray := prog_10_method_27_code
def yX8_agree : MethodName := ⟨RX8, "agree", "()I"⟩
abbrev cX8_day : ByteArray := prog_10_method_28_code
def yX8_day : MethodName := ⟨RX8, "day", "(II)I"⟩
abbrev cX8_can : ByteArray := prog_10_method_29_code
def yX8_can : MethodName := ⟨RX8, "can", "(II)I"⟩
abbrev cX8_left : ByteArray := prog_10_method_30_code
def yX8_left : MethodName := ⟨RX8, "left", "(I)I"⟩
abbrev cX8_findGaps : ByteArray := prog_10_method_31_code
def yX8_findGaps : MethodName := ⟨RX8, "findGaps", "(I)V"⟩
abbrev cX8_gap : ByteArray := prog_10_method_32_code
def yX8_gap : MethodName := ⟨RX8, "gap", "(II)I"⟩
abbrev cX8_findAhead : ByteArray := prog_10_method_33_code
def yX8_findAhead : MethodName := ⟨RX8, "findAhead", "()V"⟩
abbrev cX8_ahead : ByteArray := prog_10_method_34_code
def yX8_ahead : MethodName := ⟨RX8, "ahead", "(II)I"⟩
abbrev cX8_orders : ByteArray := prog_10_method_35_code
def yX8_orders : MethodName := ⟨RX8, "orders", "()I"⟩
abbrev cX8_order : ByteArray := prog_10_method_36_code
def yX8_order : MethodName := ⟨RX8, "order", "(I)I"⟩
abbrev cX8_manyOf : ByteArray := prog_10_method_37_code
def yX8_manyOf : MethodName := ⟨RX8, "manyOf", "(I)I"⟩
abbrev cX8_weightBy : ByteArray := prog_10_method_38_code
def yX8_weightBy : MethodName := ⟨RX8, "weightBy", "(I)I"⟩
abbrev cX8_knot : ByteArray := prog_10_method_39_code
def yX8_knot : MethodName := ⟨RX8, "knot", "(I)I"⟩
abbrev cX8_core : ByteArray := prog_10_method_40_code
def yX8_core : MethodName := ⟨RX8, "core", "()I"⟩
abbrev cX8_widthAll : ByteArray := prog_10_method_41_code
def yX8_widthAll : MethodName := ⟨RX8, "widthAll", "()I"⟩
abbrev cX8_worstOf : ByteArray := prog_10_method_42_code
def yX8_worstOf : MethodName := ⟨RX8, "worstOf", "(I)I"⟩
abbrev cX8_worst : ByteArray := prog_10_method_43_code
def yX8_worst : MethodName := ⟨RX8, "worst", "(I)I"⟩
abbrev cX8_best : ByteArray := prog_10_method_44_code
def yX8_best : MethodName := ⟨RX8, "best", "()I"⟩
abbrev cX8_isBundle : ByteArray := prog_10_method_45_code
def yX8_isBundle : MethodName := ⟨RX8, "isBundle", "(I)Z"⟩
abbrev cX8_placeIn : ByteArray := prog_10_method_46_code
def yX8_placeIn : MethodName := ⟨RX8, "placeIn", "(II)I"⟩
abbrev cX8_takesOut : ByteArray := prog_10_method_47_code
def yX8_takesOut : MethodName := ⟨RX8, "takesOut", "(II)V"⟩
abbrev cX8_putsIn : ByteArray := prog_10_method_48_code
def yX8_putsIn : MethodName := ⟨RX8, "putsIn", "(III)V"⟩
abbrev cX8_tie : ByteArray := prog_10_method_49_code
def yX8_tie : MethodName := ⟨RX8, "tie", "(II)I"⟩
abbrev cX8_untie : ByteArray := prog_10_method_50_code
def yX8_untie : MethodName := ⟨RX8, "untie", "(II)I"⟩
abbrev cX8_setIn : ByteArray := prog_10_method_51_code
def yX8_setIn : MethodName := ⟨RX8, "setIn", "(I)I"⟩
abbrev cX8_spread : ByteArray := prog_10_method_52_code
def yX8_spread : MethodName := ⟨RX8, "spread", "(I)I"⟩
abbrev cX8_lies : ByteArray := prog_10_method_53_code
def yX8_lies : MethodName := ⟨RX8, "lies", "(II)I"⟩
abbrev cX8_many : ByteArray := prog_10_method_54_code
def yX8_many : MethodName := ⟨RX8, "many", "(I)I"⟩
def RJ6 : String := "java/lang/Integer"
abbrev cJ6_bitCount_0f7a4 : ByteArray := prog_11_method_49_code
def yJ6_bitCount_0f7a4 : MethodName := ⟨RJ6, "bitCount", "(I)I"⟩
def RL : String := "LetterDaysLaw"
abbrev cL_law : ByteArray := code
def yL_law : MethodName := ⟨RL, "law", "([I)Z"⟩
abbrev am_cls : List vw_C := [(RX0, TX0, 2), (RX1, TX1, 9), (RX2, TX2, 3), (RX3, TX3, 7), (RX4, TX4, 3), (RX5, TX5, 13), (RX6, TX6, 9), (RX7, TX7, 6), (RX8, TX8, 18)]
theorem am_inX0 : ∀ w ∈ u_ws RX0 TX0 2, w ∈ lw_tbl := am_inW _ [274, 276] (by decide +kernel)
theorem am_igX0 : ∀ w ∈ u_ws RX0 TX0 2, w ∈ am_tbl := am_inG am_inX0 (by decide +kernel)
theorem am_inX1 : ∀ w ∈ u_ws RX1 TX1 9, w ∈ lw_tbl := am_inW _ [228, 230, 232, 234, 236, 238, 240, 242, 244] (by decide +kernel)
theorem am_igX1 : ∀ w ∈ u_ws RX1 TX1 9, w ∈ am_tbl := am_inG am_inX1 (by decide +kernel)
theorem am_inX2 : ∀ w ∈ u_ws RX2 TX2 3, w ∈ lw_tbl := am_inW _ [76, 78, 80] (by decide +kernel)
theorem am_igX2 : ∀ w ∈ u_ws RX2 TX2 3, w ∈ am_tbl := am_inG am_inX2 (by decide +kernel)
theorem am_inX3 : ∀ w ∈ u_ws RX3 TX3 7, w ∈ lw_tbl := am_inW _ [112, 114, 116, 118, 120, 122, 124] (by decide +kernel)
theorem am_igX3 : ∀ w ∈ u_ws RX3 TX3 7, w ∈ am_tbl := am_inG am_inX3 (by decide +kernel)
theorem am_inX4 : ∀ w ∈ u_ws RX4 TX4 3, w ∈ lw_tbl := am_inW _ [256, 258, 260] (by decide +kernel)
theorem am_igX4 : ∀ w ∈ u_ws RX4 TX4 3, w ∈ am_tbl := am_inG am_inX4 (by decide +kernel)
theorem am_inX5 : ∀ w ∈ u_ws RX5 TX5 13, w ∈ lw_tbl := am_inW _ [183, 185, 187, 189, 191, 193, 195, 197, 199, 201, 203, 205, 207] (by decide +kernel)
theorem am_igX5 : ∀ w ∈ u_ws RX5 TX5 13, w ∈ am_tbl := am_inG am_inX5 (by decide +kernel)
theorem am_inX6 : ∀ w ∈ u_ws RX6 TX6 9, w ∈ lw_tbl := am_inW _ [148, 150, 152, 154, 156, 158, 160, 162, 164] (by decide +kernel)
theorem am_igX6 : ∀ w ∈ u_ws RX6 TX6 9, w ∈ am_tbl := am_inG am_inX6 (by decide +kernel)
theorem am_inX7 : ∀ w ∈ u_ws RX7 TX7 6, w ∈ lw_tbl := am_inW _ [285, 287, 289, 291, 293, 295] (by decide +kernel)
theorem am_igX7 : ∀ w ∈ u_ws RX7 TX7 6, w ∈ am_tbl := am_inG am_inX7 (by decide +kernel)
theorem am_inX8 : ∀ w ∈ u_ws RX8 TX8 18, w ∈ lw_tbl := am_inW _ [652, 654, 656, 658, 660, 662, 664, 666, 668, 670, 672, 674, 676, 678, 680, 682, 684, 686] (by decide +kernel)
theorem am_igX8 : ∀ w ∈ u_ws RX8 TX8 18, w ∈ am_tbl := am_inG am_inX8 (by decide +kernel)
end
section
/-! the abstract machine's tables: a row an instruction: byte, instruction, length, x, y, constant, places -/
abbrev am_En : Type := Nat × Instr × Nat × Nat × Nat × Int × List Nat
-- 0: LetterDays$Bundle.asSet
def am_t0 : List am_En := [(0, .iconst 0, 1, 0, 0, 0, []), (1, .istore_n 1, 1, 0, 0, 0, []), (2, .iconst 0, 1, 0, 0, 0, []), (3, .istore_n 2, 1, 0, 0, 0, []), (4, .iload_n 2, 1, 0, 0, 0, []), (5, .aload_n 0, 1, 0, 0, 0, []), (6, .getfield 15, 3, 0, 0, 0, [270, 0]), (9, .if_icmp .ge 20, 3, 19, 0, 0, []), (12, .iload_n 1, 1, 0, 0, 0, []), (13, .iconst 1, 1, 0, 0, 0, []), (14, .aload_n 0, 1, 0, 0, 0, []), (15, .getfield 9, 3, 0, 1, 0, [272, 0]), (18, .iload_n 2, 1, 0, 0, 0, []), (19, .iaload, 1, 0, 0, 0, []), (20, .ishl, 1, 0, 0, 0, []), (21, .ior, 1, 0, 0, 0, []), (22, .istore_n 1, 1, 0, 0, 0, []), (23, .iinc 2 1, 3, 0, 0, 0, []), (26, .goto (-22), 3, 4, 0, 0, []), (29, .iload_n 1, 1, 0, 0, 0, []), (30, .ireturn, 1, 0, 0, 0, [])]
-- 1: LetterDays$Bundle.holds
def am_t1 : List am_En := [(0, .aload_n 0, 1, 0, 0, 0, []), (1, .invokevirtual 19, 3, 0, 0, 0, [376, 377, 378]), (4, .iconst 1, 1, 0, 0, 0, []), (5, .iload_n 1, 1, 0, 0, 0, []), (6, .ishl, 1, 0, 0, 0, []), (7, .iand, 1, 0, 0, 0, []), (8, .ifCond .eq 7, 3, 9, 0, 0, []), (11, .iconst 1, 1, 0, 0, 0, []), (12, .goto 4, 3, 10, 0, 0, []), (15, .iconst 0, 1, 0, 0, 0, []), (16, .ireturn, 1, 0, 0, 0, [])]
-- 2: LetterDays$Bundle.placeFor
def am_t2 : List am_En := [(0, .aload_n 0, 1, 0, 0, 0, []), (1, .getfield 15, 3, 0, 0, 0, [270, 0]), (4, .istore_n 3, 1, 0, 0, 0, []), (5, .iload_n 3, 1, 0, 0, 0, []), (6, .ifCond .le 47, 3, 33, 0, 0, []), (9, .aload_n 0, 1, 0, 0, 0, []), (10, .getfield 9, 3, 0, 1, 0, [272, 0]), (13, .iload_n 3, 1, 0, 0, 0, []), (14, .iconst 1, 1, 0, 0, 0, []), (15, .isub, 1, 0, 0, 0, []), (16, .iaload, 1, 0, 0, 0, []), (17, .istore 4, 2, 0, 0, 0, []), (19, .aload_n 2, 1, 0, 0, 0, []), (20, .iload 4, 2, 0, 0, 0, []), (22, .iaload, 1, 0, 0, 0, []), (23, .aload_n 2, 1, 0, 0, 0, []), (24, .iload_n 1, 1, 0, 0, 0, []), (25, .iaload, 1, 0, 0, 0, []), (26, .if_icmp .lt 19, 3, 29, 0, 0, []), (29, .aload_n 2, 1, 0, 0, 0, []), (30, .iload 4, 2, 0, 0, 0, []), (32, .iaload, 1, 0, 0, 0, []), (33, .aload_n 2, 1, 0, 0, 0, []), (34, .iload_n 1, 1, 0, 0, 0, []), (35, .iaload, 1, 0, 0, 0, []), (36, .if_icmp .ne 11, 3, 31, 0, 0, []), (39, .iload 4, 2, 0, 0, 0, []), (41, .iload_n 1, 1, 0, 0, 0, []), (42, .if_icmp .ge 5, 3, 31, 0, 0, []), (45, .iload_n 3, 1, 0, 0, 0, []), (46, .ireturn, 1, 0, 0, 0, []), (47, .iinc 3 (-1), 3, 0, 0, 0, []), (50, .goto (-45), 3, 3, 0, 0, []), (53, .iconst 0, 1, 0, 0, 0, []), (54, .ireturn, 1, 0, 0, 0, [])]
-- 3: LetterDays$Bundle.insert
def am_t3 : List am_En := [(0, .aload_n 0, 1, 0, 0, 0, []), (1, .getfield 15, 3, 0, 0, 0, [270, 0]), (4, .bipush 8, 2, 0, 0, 0, []), (6, .if_icmp .ge 15, 3, 10, 0, 0, []), (9, .iload_n 1, 1, 0, 0, 0, []), (10, .ifCond .lt 11, 3, 10, 0, 0, []), (13, .iload_n 1, 1, 0, 0, 0, []), (14, .aload_n 0, 1, 0, 0, 0, []), (15, .getfield 15, 3, 0, 0, 0, [270, 0]), (18, .if_icmp .le 4, 3, 11, 0, 0, []), (21, .return_, 1, 0, 0, 0, []), (22, .aload_n 0, 1, 0, 0, 0, []), (23, .getfield 15, 3, 0, 0, 0, [270, 0]), (26, .istore_n 3, 1, 0, 0, 0, []), (27, .iload_n 3, 1, 0, 0, 0, []), (28, .iload_n 1, 1, 0, 0, 0, []), (29, .if_icmp .le 23, 3, 29, 0, 0, []), (32, .aload_n 0, 1, 0, 0, 0, []), (33, .getfield 9, 3, 0, 1, 0, [272, 0]), (36, .iload_n 3, 1, 0, 0, 0, []), (37, .aload_n 0, 1, 0, 0, 0, []), (38, .getfield 9, 3, 0, 1, 0, [272, 0]), (41, .iload_n 3, 1, 0, 0, 0, []), (42, .iconst 1, 1, 0, 0, 0, []), (43, .isub, 1, 0, 0, 0, []), (44, .iaload, 1, 0, 0, 0, []), (45, .iastore, 1, 0, 0, 0, []), (46, .iinc 3 (-1), 3, 0, 0, 0, []), (49, .goto (-22), 3, 14, 0, 0, []), (52, .aload_n 0, 1, 0, 0, 0, []), (53, .getfield 9, 3, 0, 1, 0, [272, 0]), (56, .iload_n 1, 1, 0, 0, 0, []), (57, .iload_n 2, 1, 0, 0, 0, []), (58, .iastore, 1, 0, 0, 0, []), (59, .aload_n 0, 1, 0, 0, 0, []), (60, .dup, 1, 0, 0, 0, []), (61, .getfield 15, 3, 0, 0, 0, [270, 0]), (64, .iconst 1, 1, 0, 0, 0, []), (65, .iadd, 1, 0, 0, 0, []), (66, .putfield 15, 3, 0, 0, 0, [270, 0]), (69, .return_, 1, 0, 0, 0, [])]
-- 4: LetterDays$Bundle.remove
def am_t4 : List am_En := [(0, .iconst 0, 1, 0, 0, 0, []), (1, .istore_n 2, 1, 0, 0, 0, []), (2, .iconst 0, 1, 0, 0, 0, []), (3, .istore_n 3, 1, 0, 0, 0, []), (4, .iload_n 3, 1, 0, 0, 0, []), (5, .aload_n 0, 1, 0, 0, 0, []), (6, .getfield 15, 3, 0, 0, 0, [270, 0]), (9, .if_icmp .ge 34, 3, 25, 0, 0, []), (12, .aload_n 0, 1, 0, 0, 0, []), (13, .getfield 9, 3, 0, 1, 0, [272, 0]), (16, .iload_n 3, 1, 0, 0, 0, []), (17, .iaload, 1, 0, 0, 0, []), (18, .iload_n 1, 1, 0, 0, 0, []), (19, .if_icmp .eq 18, 3, 23, 0, 0, []), (22, .aload_n 0, 1, 0, 0, 0, []), (23, .getfield 9, 3, 0, 1, 0, [272, 0]), (26, .iload_n 2, 1, 0, 0, 0, []), (27, .aload_n 0, 1, 0, 0, 0, []), (28, .getfield 9, 3, 0, 1, 0, [272, 0]), (31, .iload_n 3, 1, 0, 0, 0, []), (32, .iaload, 1, 0, 0, 0, []), (33, .iastore, 1, 0, 0, 0, []), (34, .iinc 2 1, 3, 0, 0, 0, []), (37, .iinc 3 1, 3, 0, 0, 0, []), (40, .goto (-36), 3, 4, 0, 0, []), (43, .aload_n 0, 1, 0, 0, 0, []), (44, .iload_n 2, 1, 0, 0, 0, []), (45, .putfield 15, 3, 0, 0, 0, [270, 0]), (48, .return_, 1, 0, 0, 0, [])]
-- 5: LetterDays$Bundle.receive
def am_t5 : List am_En := [(0, .aload_n 0, 1, 0, 0, 0, []), (1, .iload_n 1, 1, 0, 0, 0, []), (2, .invokevirtual 23, 3, 1, 1, 0, [616, 373, 374]), (5, .ifCond .eq 11, 3, 8, 0, 0, []), (8, .aload_n 0, 1, 0, 0, 0, []), (9, .iload_n 1, 1, 0, 0, 0, []), (10, .invokevirtual 27, 3, 4, 1, 0, [617, 356, 357]), (13, .goto 12, 3, 13, 0, 0, []), (16, .aload_n 0, 1, 0, 0, 0, []), (17, .aload_n 0, 1, 0, 0, 0, []), (18, .getfield 15, 3, 0, 0, 0, [270, 0]), (21, .iload_n 1, 1, 0, 0, 0, []), (22, .invokevirtual 31, 3, 3, 2, 0, [618, 596, 597]), (25, .return_, 1, 0, 0, 0, [])]
-- 6: LetterDays$Knots.lightest
def am_t6 : List am_En := [(0, .aload_n 0, 1, 0, 0, 0, []), (1, .getfield 30, 3, 1, 0, 0, [218, 1]), (4, .ifCond .ne 28, 3, 18, 0, 0, []), (7, .aload_n 0, 1, 0, 0, 0, []), (8, .iconst 0, 1, 0, 0, 0, []), (9, .putfield 34, 3, 1, 5, 0, [224, 1]), (12, .aload_n 0, 1, 0, 0, 0, []), (13, .aload_n 0, 1, 0, 0, 0, []), (14, .getfield 26, 3, 1, 2, 0, [221, 0]), (17, .getfield 37, 3, 3, 0, 0, [91, 0]), (20, .iconst 1, 1, 0, 0, 0, []), (21, .isub, 1, 0, 0, 0, []), (22, .iconst 0, 1, 0, 0, 0, []), (23, .iconst 0, 1, 0, 0, 0, []), (24, .invokestatic 43, 3, 8, 4, 0, [535, 536]), (27, .aload_n 0, 1, 0, 0, 0, []), (28, .iconst 1, 1, 0, 0, 0, []), (29, .putfield 30, 3, 1, 0, 0, [218, 1]), (32, .aload_n 0, 1, 0, 0, 0, []), (33, .getfield 47, 3, 1, 6, 0, [225, 0]), (36, .ireturn, 1, 0, 0, 0, [])]
-- 7: LetterDays$Knots.unsparable
def am_t7 : List am_En := [(0, .aload_n 0, 1, 0, 0, 0, []), (1, .getfield 26, 3, 1, 2, 0, [221, 0]), (4, .getfield 50, 3, 3, 1, 0, [96, 0]), (7, .istore_n 1, 1, 0, 0, 0, []), (8, .aload_n 0, 1, 0, 0, 0, []), (9, .getfield 26, 3, 1, 2, 0, [221, 0]), (12, .getfield 37, 3, 3, 0, 0, [91, 0]), (15, .iconst 1, 1, 0, 0, 0, []), (16, .isub, 1, 0, 0, 0, []), (17, .istore_n 2, 1, 0, 0, 0, []), (18, .iload_n 2, 1, 0, 0, 0, []), (19, .ifCond .lt 32, 3, 31, 0, 0, []), (22, .iload_n 1, 1, 0, 0, 0, []), (23, .iconst 1, 1, 0, 0, 0, []), (24, .iload_n 2, 1, 0, 0, 0, []), (25, .ishl, 1, 0, 0, 0, []), (26, .iconst (-1), 1, 0, 0, 0, []), (27, .ixor, 1, 0, 0, 0, []), (28, .iand, 1, 0, 0, 0, []), (29, .istore_n 3, 1, 0, 0, 0, []), (30, .iload_n 3, 1, 0, 0, 0, []), (31, .iload_n 1, 1, 0, 0, 0, []), (32, .if_icmp .eq 13, 3, 29, 0, 0, []), (35, .aload_n 0, 1, 0, 0, 0, []), (36, .iload_n 3, 1, 0, 0, 0, []), (37, .invokevirtual 53, 3, 11, 1, 0, [557, 559, 14]), (40, .ifCond .ne 5, 3, 29, 0, 0, []), (43, .iload_n 3, 1, 0, 0, 0, []), (44, .istore_n 1, 1, 0, 0, 0, []), (45, .iinc 2 (-1), 3, 0, 0, 0, []), (48, .goto (-30), 3, 10, 0, 0, []), (51, .iload_n 1, 1, 0, 0, 0, []), (52, .ireturn, 1, 0, 0, 0, [])]
-- 8: LetterDays$Knots.seek
def am_t8 : List am_En := [(0, .aload_n 0, 1, 0, 0, 0, []), (1, .iload_n 3, 1, 0, 0, 0, []), (2, .invokevirtual 57, 3, 9, 1, 0, [538, 540, 12]), (5, .ifCond .ne 4, 3, 5, 0, 0, []), (8, .return_, 1, 0, 0, 0, []), (9, .iload_n 1, 1, 0, 0, 0, []), (10, .ifCond .ge 9, 3, 11, 0, 0, []), (13, .aload_n 0, 1, 0, 0, 0, []), (14, .iload_n 3, 1, 0, 0, 0, []), (15, .invokevirtual 60, 3, 10, 1, 0, [552, 554, 13]), (18, .return_, 1, 0, 0, 0, []), (19, .iconst 1, 1, 0, 0, 0, []), (20, .iload_n 1, 1, 0, 0, 0, []), (21, .ishl, 1, 0, 0, 0, []), (22, .istore 4, 2, 0, 0, 0, []), (24, .aload_n 0, 1, 0, 0, 0, []), (25, .getfield 26, 3, 1, 2, 0, [221, 0]), (28, .iload_n 1, 1, 0, 0, 0, []), (29, .invokevirtual 64, 3, 14, 1, 0, [556, 336, 337]), (32, .ifCond .ne 13, 3, 28, 0, 0, []), (35, .aload_n 0, 1, 0, 0, 0, []), (36, .iload_n 1, 1, 0, 0, 0, []), (37, .iconst 1, 1, 0, 0, 0, []), (38, .isub, 1, 0, 0, 0, []), (39, .iload_n 2, 1, 0, 0, 0, []), (40, .iload_n 3, 1, 0, 0, 0, []), (41, .invokestatic 43, 3, 8, 4, 0, [535, 536]), (44, .return_, 1, 0, 0, 0, []), (45, .aload_n 0, 1, 0, 0, 0, []), (46, .iload_n 2, 1, 0, 0, 0, []), (47, .iload 4, 2, 0, 0, 0, []), (49, .ior, 1, 0, 0, 0, []), (50, .invokevirtual 53, 3, 11, 1, 0, [557, 559, 14]), (53, .ifCond .eq 15, 3, 43, 0, 0, []), (56, .aload_n 0, 1, 0, 0, 0, []), (57, .iload_n 1, 1, 0, 0, 0, []), (58, .iconst 1, 1, 0, 0, 0, []), (59, .isub, 1, 0, 0, 0, []), (60, .iload_n 2, 1, 0, 0, 0, []), (61, .iload 4, 2, 0, 0, 0, []), (63, .ior, 1, 0, 0, 0, []), (64, .iload_n 3, 1, 0, 0, 0, []), (65, .invokestatic 43, 3, 8, 4, 0, [535, 536]), (68, .aload_n 0, 1, 0, 0, 0, []), (69, .iload_n 1, 1, 0, 0, 0, []), (70, .iconst 1, 1, 0, 0, 0, []), (71, .isub, 1, 0, 0, 0, []), (72, .iload_n 2, 1, 0, 0, 0, []), (73, .iload_n 3, 1, 0, 0, 0, []), (74, .iload 4, 2, 0, 0, 0, []), (76, .ior, 1, 0, 0, 0, []), (77, .invokestatic 43, 3, 8, 4, 0, [535, 536]), (80, .return_, 1, 0, 0, 0, [])]
-- 9: LetterDays$Knots.isBeatenBy
def am_t9 : List am_En := [(0, .aload_n 0, 1, 0, 0, 0, []), (1, .getfield 26, 3, 1, 2, 0, [221, 0]), (4, .iload_n 1, 1, 0, 0, 0, []), (5, .invokevirtual 67, 3, 18, 1, 0, [542, 543, 544]), (8, .istore_n 2, 1, 0, 0, 0, []), (9, .aload_n 0, 1, 0, 0, 0, []), (10, .getfield 34, 3, 1, 5, 0, [224, 1]), (13, .ifCond .eq 30, 3, 21, 0, 0, []), (16, .iload_n 2, 1, 0, 0, 0, []), (17, .aload_n 0, 1, 0, 0, 0, []), (18, .getfield 71, 3, 1, 7, 0, [226, 0]), (21, .if_icmp .lt 22, 3, 21, 0, 0, []), (24, .iload_n 2, 1, 0, 0, 0, []), (25, .aload_n 0, 1, 0, 0, 0, []), (26, .getfield 71, 3, 1, 7, 0, [226, 0]), (29, .if_icmp .ne 18, 3, 23, 0, 0, []), (32, .iload_n 1, 1, 0, 0, 0, []), (33, .invokestatic 74, 3, 130, 1, 0, [546, 547]), (36, .aload_n 0, 1, 0, 0, 0, []), (37, .getfield 79, 3, 1, 8, 0, [227, 0]), (40, .if_icmp .ge 7, 3, 23, 0, 0, []), (43, .iconst 1, 1, 0, 0, 0, []), (44, .goto 4, 3, 24, 0, 0, []), (47, .iconst 0, 1, 0, 0, 0, []), (48, .ireturn, 1, 0, 0, 0, [])]
-- 10: LetterDays$Knots.become
def am_t10 : List am_En := [(0, .aload_n 0, 1, 0, 0, 0, []), (1, .iconst 1, 1, 0, 0, 0, []), (2, .putfield 34, 3, 1, 5, 0, [224, 1]), (5, .aload_n 0, 1, 0, 0, 0, []), (6, .iload_n 1, 1, 0, 0, 0, []), (7, .putfield 47, 3, 1, 6, 0, [225, 0]), (10, .aload_n 0, 1, 0, 0, 0, []), (11, .aload_n 0, 1, 0, 0, 0, []), (12, .getfield 26, 3, 1, 2, 0, [221, 0]), (15, .iload_n 1, 1, 0, 0, 0, []), (16, .invokevirtual 67, 3, 18, 1, 0, [542, 543, 544]), (19, .putfield 71, 3, 1, 7, 0, [226, 0]), (22, .aload_n 0, 1, 0, 0, 0, []), (23, .iload_n 1, 1, 0, 0, 0, []), (24, .invokestatic 74, 3, 130, 1, 0, [546, 547]), (27, .putfield 79, 3, 1, 8, 0, [227, 0]), (30, .return_, 1, 0, 0, 0, [])]
-- 11: LetterDays$Knots.agreeing
def am_t11 : List am_En := [(0, .aload_n 0, 1, 0, 0, 0, []), (1, .getfield 12, 3, 1, 3, 0, [222, 0]), (4, .aload_n 0, 1, 0, 0, 0, []), (5, .getfield 22, 3, 1, 1, 0, [220, 0]), (8, .aload_n 0, 1, 0, 0, 0, []), (9, .getfield 26, 3, 1, 2, 0, [221, 0]), (12, .iload_n 1, 1, 0, 0, 0, []), (13, .invokevirtual 82, 3, 36, 3, 0, [561, 393, 394]), (16, .aload_n 0, 1, 0, 0, 0, []), (17, .getfield 12, 3, 1, 3, 0, [222, 0]), (20, .aload_n 0, 1, 0, 0, 0, []), (21, .getfield 18, 3, 1, 4, 0, [223, 0]), (24, .invokevirtual 86, 3, 39, 1, 0, [562, 411, 412]), (27, .ireturn, 1, 0, 0, 0, [])]
-- 12: LetterDays$Letters.has
def am_t12 : List am_En := [(0, .iload_n 1, 1, 0, 0, 0, []), (1, .ifCond .lt 15, 3, 8, 0, 0, []), (4, .iload_n 1, 1, 0, 0, 0, []), (5, .aload_n 0, 1, 0, 0, 0, []), (6, .getfield 18, 3, 2, 0, 0, [67, 0]), (9, .if_icmp .ge 7, 3, 8, 0, 0, []), (12, .iconst 1, 1, 0, 0, 0, []), (13, .goto 4, 3, 9, 0, 0, []), (16, .iconst 0, 1, 0, 0, 0, []), (17, .ireturn, 1, 0, 0, 0, [])]
-- 13: LetterDays$Notes.has
def am_t13 : List am_En := [(0, .iload_n 1, 1, 0, 0, 0, []), (1, .ifCond .lt 15, 3, 8, 0, 0, []), (4, .iload_n 1, 1, 0, 0, 0, []), (5, .aload_n 0, 1, 0, 0, 0, []), (6, .getfield 27, 3, 3, 0, 0, [90, 0]), (9, .if_icmp .ge 7, 3, 8, 0, 0, []), (12, .iconst 1, 1, 0, 0, 0, []), (13, .goto 4, 3, 9, 0, 0, []), (16, .iconst 0, 1, 0, 0, 0, []), (17, .ireturn, 1, 0, 0, 0, [])]
-- 14: LetterDays$Notes.isInForce
def am_t14 : List am_En := [(0, .aload_n 0, 1, 0, 0, 0, []), (1, .getfield 31, 3, 3, 1, 0, [95, 0]), (4, .iconst 1, 1, 0, 0, 0, []), (5, .iload_n 1, 1, 0, 0, 0, []), (6, .ishl, 1, 0, 0, 0, []), (7, .iand, 1, 0, 0, 0, []), (8, .ifCond .eq 7, 3, 9, 0, 0, []), (11, .iconst 1, 1, 0, 0, 0, []), (12, .goto 4, 3, 10, 0, 0, []), (15, .iconst 0, 1, 0, 0, 0, []), (16, .ireturn, 1, 0, 0, 0, [])]
-- 15: LetterDays$Notes.names
def am_t15 : List am_En := [(0, .aload_n 0, 1, 0, 0, 0, []), (1, .getfield 15, 3, 3, 3, 0, [101, 0]), (4, .iload_n 1, 1, 0, 0, 0, []), (5, .iaload, 1, 0, 0, 0, []), (6, .iload_n 2, 1, 0, 0, 0, []), (7, .if_icmp .eq 13, 3, 12, 0, 0, []), (10, .aload_n 0, 1, 0, 0, 0, []), (11, .getfield 18, 3, 3, 4, 0, [104, 0]), (14, .iload_n 1, 1, 0, 0, 0, []), (15, .iaload, 1, 0, 0, 0, []), (16, .iload_n 2, 1, 0, 0, 0, []), (17, .if_icmp .ne 7, 3, 14, 0, 0, []), (20, .iconst 1, 1, 0, 0, 0, []), (21, .goto 4, 3, 15, 0, 0, []), (24, .iconst 0, 1, 0, 0, 0, []), (25, .ireturn, 1, 0, 0, 0, [])]
-- 16: LetterDays$Notes.anyNames
def am_t16 : List am_En := [(0, .iconst 0, 1, 0, 0, 0, []), (1, .istore_n 2, 1, 0, 0, 0, []), (2, .iload_n 2, 1, 0, 0, 0, []), (3, .aload_n 0, 1, 0, 0, 0, []), (4, .getfield 27, 3, 3, 0, 0, [90, 0]), (7, .if_icmp .ge 20, 3, 15, 0, 0, []), (10, .aload_n 0, 1, 0, 0, 0, []), (11, .iload_n 2, 1, 0, 0, 0, []), (12, .iload_n 1, 1, 0, 0, 0, []), (13, .invokevirtual 34, 3, 15, 2, 0, [351, 352, 353]), (16, .ifCond .eq 5, 3, 13, 0, 0, []), (19, .iconst 1, 1, 0, 0, 0, []), (20, .ireturn, 1, 0, 0, 0, []), (21, .iinc 2 1, 3, 0, 0, 0, []), (24, .goto (-22), 3, 2, 0, 0, []), (27, .iconst 0, 1, 0, 0, 0, []), (28, .ireturn, 1, 0, 0, 0, [])]
-- 17: LetterDays$Notes.inForceNaming
def am_t17 : List am_En := [(0, .iconst 0, 1, 0, 0, 0, []), (1, .istore_n 2, 1, 0, 0, 0, []), (2, .iconst 0, 1, 0, 0, 0, []), (3, .istore_n 3, 1, 0, 0, 0, []), (4, .iload_n 3, 1, 0, 0, 0, []), (5, .aload_n 0, 1, 0, 0, 0, []), (6, .getfield 27, 3, 3, 0, 0, [90, 0]), (9, .if_icmp .ge 29, 3, 20, 0, 0, []), (12, .aload_n 0, 1, 0, 0, 0, []), (13, .iload_n 3, 1, 0, 0, 0, []), (14, .invokevirtual 38, 3, 14, 1, 0, [367, 336, 337]), (17, .ifCond .eq 15, 3, 18, 0, 0, []), (20, .aload_n 0, 1, 0, 0, 0, []), (21, .iload_n 3, 1, 0, 0, 0, []), (22, .iload_n 1, 1, 0, 0, 0, []), (23, .invokevirtual 34, 3, 15, 2, 0, [351, 352, 353]), (26, .ifCond .eq 6, 3, 18, 0, 0, []), (29, .iinc 2 1, 3, 0, 0, 0, []), (32, .iinc 3 1, 3, 0, 0, 0, []), (35, .goto (-31), 3, 4, 0, 0, []), (38, .iload_n 2, 1, 0, 0, 0, []), (39, .ireturn, 1, 0, 0, 0, [])]
-- 18: LetterDays$Notes.weightOf
def am_t18 : List am_En := [(0, .iconst 0, 1, 0, 0, 0, []), (1, .istore_n 2, 1, 0, 0, 0, []), (2, .iconst 0, 1, 0, 0, 0, []), (3, .istore_n 3, 1, 0, 0, 0, []), (4, .iload_n 3, 1, 0, 0, 0, []), (5, .aload_n 0, 1, 0, 0, 0, []), (6, .getfield 27, 3, 3, 0, 0, [90, 0]), (9, .if_icmp .ge 26, 3, 23, 0, 0, []), (12, .iload_n 1, 1, 0, 0, 0, []), (13, .iconst 1, 1, 0, 0, 0, []), (14, .iload_n 3, 1, 0, 0, 0, []), (15, .ishl, 1, 0, 0, 0, []), (16, .iand, 1, 0, 0, 0, []), (17, .ifCond .eq 12, 3, 21, 0, 0, []), (20, .iload_n 2, 1, 0, 0, 0, []), (21, .aload_n 0, 1, 0, 0, 0, []), (22, .getfield 24, 3, 3, 6, 0, [110, 0]), (25, .iload_n 3, 1, 0, 0, 0, []), (26, .iaload, 1, 0, 0, 0, []), (27, .iadd, 1, 0, 0, 0, []), (28, .istore_n 2, 1, 0, 0, 0, []), (29, .iinc 3 1, 3, 0, 0, 0, []), (32, .goto (-28), 3, 4, 0, 0, []), (35, .iload_n 2, 1, 0, 0, 0, []), (36, .ireturn, 1, 0, 0, 0, [])]
-- 19: LetterDays$Orders.take
def am_t19 : List am_En := [(0, .aload_n 0, 1, 0, 0, 0, []), (1, .iload_n 2, 1, 0, 0, 0, []), (2, .putfield 18, 3, 4, 0, 0, [253, 0]), (5, .iconst 0, 1, 0, 0, 0, []), (6, .istore_n 3, 1, 0, 0, 0, []), (7, .iload_n 3, 1, 0, 0, 0, []), (8, .aload_n 0, 1, 0, 0, 0, []), (9, .getfield 18, 3, 4, 0, 0, [253, 0]), (12, .if_icmp .ge 20, 3, 18, 0, 0, []), (15, .aload_n 0, 1, 0, 0, 0, []), (16, .getfield 9, 3, 4, 1, 0, [254, 0]), (19, .iload_n 3, 1, 0, 0, 0, []), (20, .aload_n 1, 1, 0, 0, 0, []), (21, .iload_n 3, 1, 0, 0, 0, []), (22, .invokevirtual 22, 3, 29, 1, 0, [506, 491, 492]), (25, .iastore, 1, 0, 0, 0, []), (26, .iinc 3 1, 3, 0, 0, 0, []), (29, .goto (-22), 3, 5, 0, 0, []), (32, .return_, 1, 0, 0, 0, [])]
-- 20: LetterDays$Orders.howMany
def am_t20 : List am_En := [(0, .iconst 1, 1, 0, 0, 0, []), (1, .aload_n 0, 1, 0, 0, 0, []), (2, .getfield 18, 3, 4, 0, 0, [253, 0]), (5, .ishl, 1, 0, 0, 0, []), (6, .iconst 1, 1, 0, 0, 0, []), (7, .isub, 1, 0, 0, 0, []), (8, .istore_n 1, 1, 0, 0, 0, []), (9, .iconst 1, 1, 0, 0, 0, []), (10, .istore_n 2, 1, 0, 0, 0, []), (11, .iload_n 2, 1, 0, 0, 0, []), (12, .iload_n 1, 1, 0, 0, 0, []), (13, .if_icmp .gt 16, 3, 19, 0, 0, []), (16, .aload_n 0, 1, 0, 0, 0, []), (17, .getfield 15, 3, 4, 2, 0, [255, 0]), (20, .iload_n 2, 1, 0, 0, 0, []), (21, .iconst 0, 1, 0, 0, 0, []), (22, .iastore, 1, 0, 0, 0, []), (23, .iinc 2 1, 3, 0, 0, 0, []), (26, .goto (-15), 3, 9, 0, 0, []), (29, .aload_n 0, 1, 0, 0, 0, []), (30, .getfield 15, 3, 4, 2, 0, [255, 0]), (33, .iconst 0, 1, 0, 0, 0, []), (34, .iconst 1, 1, 0, 0, 0, []), (35, .iastore, 1, 0, 0, 0, []), (36, .iconst 0, 1, 0, 0, 0, []), (37, .istore_n 2, 1, 0, 0, 0, []), (38, .iload_n 2, 1, 0, 0, 0, []), (39, .iload_n 1, 1, 0, 0, 0, []), (40, .if_icmp .ge 53, 3, 59, 0, 0, []), (43, .iconst 0, 1, 0, 0, 0, []), (44, .istore_n 3, 1, 0, 0, 0, []), (45, .iload_n 3, 1, 0, 0, 0, []), (46, .aload_n 0, 1, 0, 0, 0, []), (47, .getfield 18, 3, 4, 0, 0, [253, 0]), (50, .if_icmp .ge 37, 3, 57, 0, 0, []), (53, .aload_n 0, 1, 0, 0, 0, []), (54, .iload_n 3, 1, 0, 0, 0, []), (55, .iload_n 2, 1, 0, 0, 0, []), (56, .invokevirtual 28, 3, 23, 2, 0, [511, 513, 10]), (59, .ifCond .eq 22, 3, 55, 0, 0, []), (62, .aload_n 0, 1, 0, 0, 0, []), (63, .getfield 15, 3, 4, 2, 0, [255, 0]), (66, .iload_n 2, 1, 0, 0, 0, []), (67, .iconst 1, 1, 0, 0, 0, []), (68, .iload_n 3, 1, 0, 0, 0, []), (69, .ishl, 1, 0, 0, 0, []), (70, .ior, 1, 0, 0, 0, []), (71, .dup2, 1, 0, 0, 0, []), (72, .iaload, 1, 0, 0, 0, []), (73, .aload_n 0, 1, 0, 0, 0, []), (74, .getfield 15, 3, 4, 2, 0, [255, 0]), (77, .iload_n 2, 1, 0, 0, 0, []), (78, .iaload, 1, 0, 0, 0, []), (79, .iadd, 1, 0, 0, 0, []), (80, .iastore, 1, 0, 0, 0, []), (81, .iinc 3 1, 3, 0, 0, 0, []), (84, .goto (-39), 3, 31, 0, 0, []), (87, .iinc 2 1, 3, 0, 0, 0, []), (90, .goto (-52), 3, 26, 0, 0, []), (93, .aload_n 0, 1, 0, 0, 0, []), (94, .getfield 15, 3, 4, 2, 0, [255, 0]), (97, .iload_n 1, 1, 0, 0, 0, []), (98, .iaload, 1, 0, 0, 0, []), (99, .ireturn, 1, 0, 0, 0, [])]
-- 21: LetterDays$Orders.ofFirst
def am_t21 : List am_En := [(0, .iconst 0, 1, 0, 0, 0, []), (1, .istore_n 2, 1, 0, 0, 0, []), (2, .bipush (-9), 2, 0, 0, 0, []), (4, .istore_n 3, 1, 0, 0, 0, []), (5, .iconst 0, 1, 0, 0, 0, []), (6, .istore 4, 2, 0, 0, 0, []), (8, .iload 4, 2, 0, 0, 0, []), (10, .iload_n 1, 1, 0, 0, 0, []), (11, .if_icmp .gt 30, 3, 26, 0, 0, []), (14, .aload_n 0, 1, 0, 0, 0, []), (15, .iload_n 2, 1, 0, 0, 0, []), (16, .invokevirtual 32, 3, 22, 1, 0, [523, 525, 11]), (19, .istore_n 3, 1, 0, 0, 0, []), (20, .iload_n 3, 1, 0, 0, 0, []), (21, .bipush (-9), 2, 0, 0, 0, []), (23, .if_icmp .ne 6, 3, 18, 0, 0, []), (26, .bipush (-9), 2, 0, 0, 0, []), (28, .ireturn, 1, 0, 0, 0, []), (29, .iload_n 2, 1, 0, 0, 0, []), (30, .iconst 1, 1, 0, 0, 0, []), (31, .iload_n 3, 1, 0, 0, 0, []), (32, .ishl, 1, 0, 0, 0, []), (33, .ior, 1, 0, 0, 0, []), (34, .istore_n 2, 1, 0, 0, 0, []), (35, .iinc 4 1, 3, 0, 0, 0, []), (38, .goto (-30), 3, 6, 0, 0, []), (41, .iload_n 3, 1, 0, 0, 0, []), (42, .ireturn, 1, 0, 0, 0, [])]
-- 22: LetterDays$Orders.firstNext
def am_t22 : List am_En := [(0, .iconst 0, 1, 0, 0, 0, []), (1, .istore_n 2, 1, 0, 0, 0, []), (2, .iload_n 2, 1, 0, 0, 0, []), (3, .aload_n 0, 1, 0, 0, 0, []), (4, .getfield 18, 3, 4, 0, 0, [253, 0]), (7, .if_icmp .ge 20, 3, 15, 0, 0, []), (10, .aload_n 0, 1, 0, 0, 0, []), (11, .iload_n 2, 1, 0, 0, 0, []), (12, .iload_n 1, 1, 0, 0, 0, []), (13, .invokevirtual 28, 3, 23, 2, 0, [511, 513, 10]), (16, .ifCond .eq 5, 3, 13, 0, 0, []), (19, .iload_n 2, 1, 0, 0, 0, []), (20, .ireturn, 1, 0, 0, 0, []), (21, .iinc 2 1, 3, 0, 0, 0, []), (24, .goto (-22), 3, 2, 0, 0, []), (27, .bipush (-9), 2, 0, 0, 0, []), (29, .ireturn, 1, 0, 0, 0, [])]
-- 23: LetterDays$Orders.comesNext
def am_t23 : List am_En := [(0, .iload_n 2, 1, 0, 0, 0, []), (1, .iconst 1, 1, 0, 0, 0, []), (2, .iload_n 1, 1, 0, 0, 0, []), (3, .ishl, 1, 0, 0, 0, []), (4, .iand, 1, 0, 0, 0, []), (5, .ifCond .ne 20, 3, 17, 0, 0, []), (8, .aload_n 0, 1, 0, 0, 0, []), (9, .getfield 9, 3, 4, 1, 0, [254, 0]), (12, .iload_n 1, 1, 0, 0, 0, []), (13, .iaload, 1, 0, 0, 0, []), (14, .iload_n 2, 1, 0, 0, 0, []), (15, .iconst (-1), 1, 0, 0, 0, []), (16, .ixor, 1, 0, 0, 0, []), (17, .iand, 1, 0, 0, 0, []), (18, .ifCond .ne 7, 3, 17, 0, 0, []), (21, .iconst 1, 1, 0, 0, 0, []), (22, .goto 4, 3, 18, 0, 0, []), (25, .iconst 0, 1, 0, 0, 0, []), (26, .ireturn, 1, 0, 0, 0, [])]
-- 24: LetterDays$Ways.exist
def am_t24 : List am_En := [(0, .aload_n 0, 1, 0, 0, 0, []), (1, .getfield 48, 3, 5, 0, 0, [167, 1]), (4, .ifCond .ne 68, 3, 34, 0, 0, []), (7, .aload_n 0, 1, 0, 0, 0, []), (8, .getfield 21, 3, 5, 5, 0, [175, 0]), (11, .aload_n 0, 1, 0, 0, 0, []), (12, .getfield 40, 3, 5, 3, 0, [173, 0]), (15, .aload_n 0, 1, 0, 0, 0, []), (16, .getfield 44, 3, 5, 4, 0, [174, 0]), (19, .aload_n 0, 1, 0, 0, 0, []), (20, .getfield 44, 3, 5, 4, 0, [174, 0]), (23, .getfield 52, 3, 3, 1, 0, [94, 0]), (26, .invokevirtual 58, 3, 36, 3, 0, [392, 393, 394]), (29, .aload_n 0, 1, 0, 0, 0, []), (30, .aload_n 0, 1, 0, 0, 0, []), (31, .getfield 21, 3, 5, 5, 0, [175, 0]), (34, .aload_n 0, 1, 0, 0, 0, []), (35, .getfield 9, 3, 5, 1, 0, [169, 0]), (38, .invokevirtual 62, 3, 39, 1, 0, [410, 411, 412]), (41, .putfield 66, 3, 5, 6, 0, [176, 1]), (44, .aload_n 0, 1, 0, 0, 0, []), (45, .getfield 66, 3, 5, 6, 0, [176, 1]), (48, .ifCond .eq 14, 3, 28, 0, 0, []), (51, .aload_n 0, 1, 0, 0, 0, []), (52, .getfield 21, 3, 5, 5, 0, [175, 0]), (55, .aload_n 0, 1, 0, 0, 0, []), (56, .getfield 15, 3, 5, 2, 0, [171, 0]), (59, .invokevirtual 69, 3, 40, 1, 0, [422, 423, 424]), (62, .aload_n 0, 1, 0, 0, 0, []), (63, .iconst 0, 1, 0, 0, 0, []), (64, .putfield 73, 3, 5, 7, 0, [177, 0]), (67, .aload_n 0, 1, 0, 0, 0, []), (68, .iconst 1, 1, 0, 0, 0, []), (69, .putfield 48, 3, 5, 0, 0, [167, 1]), (72, .aload_n 0, 1, 0, 0, 0, []), (73, .getfield 66, 3, 5, 6, 0, [176, 1]), (76, .ireturn, 1, 0, 0, 0, [])]
-- 25: LetterDays$Ways.allow
def am_t25 : List am_En := [(0, .aload_n 0, 1, 0, 0, 0, []), (1, .iload_n 1, 1, 0, 0, 0, []), (2, .invokevirtual 76, 3, 31, 1, 0, [446, 448, 5]), (5, .aload_n 0, 1, 0, 0, 0, []), (6, .getfield 28, 3, 5, 9, 0, [179, 0]), (9, .iload_n 1, 1, 0, 0, 0, []), (10, .sipush 200, 3, 0, 0, 0, []), (13, .imul, 1, 0, 0, 0, []), (14, .iload_n 2, 1, 0, 0, 0, []), (15, .iadd, 1, 0, 0, 0, []), (16, .iaload, 1, 0, 0, 0, []), (17, .iconst (-1), 1, 0, 0, 0, []), (18, .if_icmp .eq 7, 3, 15, 0, 0, []), (21, .iconst 1, 1, 0, 0, 0, []), (22, .goto 4, 3, 16, 0, 0, []), (25, .iconst 0, 1, 0, 0, 0, []), (26, .ireturn, 1, 0, 0, 0, [])]
-- 26: LetterDays$Ways.daysOpenTo
def am_t26 : List am_En := [(0, .aload_n 0, 1, 0, 0, 0, []), (1, .iload_n 1, 1, 0, 0, 0, []), (2, .invokevirtual 76, 3, 31, 1, 0, [446, 448, 5]), (5, .aload_n 0, 1, 0, 0, 0, []), (6, .getfield 31, 3, 5, 10, 0, [180, 0]), (9, .iload_n 1, 1, 0, 0, 0, []), (10, .iaload, 1, 0, 0, 0, []), (11, .ireturn, 1, 0, 0, 0, [])]
-- 27: LetterDays$Ways.leastGap
def am_t27 : List am_En := [(0, .aload_n 0, 1, 0, 0, 0, []), (1, .iload_n 1, 1, 0, 0, 0, []), (2, .invokevirtual 76, 3, 31, 1, 0, [446, 448, 5]), (5, .aload_n 0, 1, 0, 0, 0, []), (6, .getfield 34, 3, 5, 11, 0, [181, 0]), (9, .iload_n 1, 1, 0, 0, 0, []), (10, .bipush 8, 2, 0, 0, 0, []), (12, .imul, 1, 0, 0, 0, []), (13, .iload_n 2, 1, 0, 0, 0, []), (14, .iadd, 1, 0, 0, 0, []), (15, .iaload, 1, 0, 0, 0, []), (16, .ireturn, 1, 0, 0, 0, [])]
-- 28: LetterDays$Ways.greatestRest
def am_t28 : List am_En := [(0, .aload_n 0, 1, 0, 0, 0, []), (1, .iload_n 1, 1, 0, 0, 0, []), (2, .invokevirtual 76, 3, 31, 1, 0, [446, 448, 5]), (5, .aload_n 0, 1, 0, 0, 0, []), (6, .getfield 37, 3, 5, 12, 0, [182, 0]), (9, .iload_n 1, 1, 0, 0, 0, []), (10, .iaload, 1, 0, 0, 0, []), (11, .ireturn, 1, 0, 0, 0, [])]
-- 29: LetterDays$Ways.thoseAheadOf
def am_t29 : List am_En := [(0, .iconst 0, 1, 0, 0, 0, []), (1, .istore_n 2, 1, 0, 0, 0, []), (2, .iconst 0, 1, 0, 0, 0, []), (3, .istore_n 3, 1, 0, 0, 0, []), (4, .iload_n 3, 1, 0, 0, 0, []), (5, .aload_n 0, 1, 0, 0, 0, []), (6, .getfield 40, 3, 5, 3, 0, [173, 0]), (9, .getfield 80, 3, 2, 0, 0, [69, 0]), (12, .if_icmp .ge 34, 3, 29, 0, 0, []), (15, .aload_n 0, 1, 0, 0, 0, []), (16, .iload_n 3, 1, 0, 0, 0, []), (17, .invokevirtual 76, 3, 31, 1, 0, [446, 448, 5]), (20, .aload_n 0, 1, 0, 0, 0, []), (21, .getfield 34, 3, 5, 11, 0, [181, 0]), (24, .iload_n 3, 1, 0, 0, 0, []), (25, .bipush 8, 2, 0, 0, 0, []), (27, .imul, 1, 0, 0, 0, []), (28, .iload_n 1, 1, 0, 0, 0, []), (29, .iadd, 1, 0, 0, 0, []), (30, .iaload, 1, 0, 0, 0, []), (31, .ifCond .le 9, 3, 27, 0, 0, []), (34, .iload_n 2, 1, 0, 0, 0, []), (35, .iconst 1, 1, 0, 0, 0, []), (36, .iload_n 3, 1, 0, 0, 0, []), (37, .ishl, 1, 0, 0, 0, []), (38, .ior, 1, 0, 0, 0, []), (39, .istore_n 2, 1, 0, 0, 0, []), (40, .iinc 3 1, 3, 0, 0, 0, []), (43, .goto (-39), 3, 4, 0, 0, []), (46, .iload_n 2, 1, 0, 0, 0, []), (47, .ireturn, 1, 0, 0, 0, [])]
-- 30: LetterDays$Ways.thoseBehind
def am_t30 : List am_En := [(0, .aload_n 0, 1, 0, 0, 0, []), (1, .iload_n 1, 1, 0, 0, 0, []), (2, .invokevirtual 76, 3, 31, 1, 0, [446, 448, 5]), (5, .iconst 0, 1, 0, 0, 0, []), (6, .istore_n 2, 1, 0, 0, 0, []), (7, .iconst 0, 1, 0, 0, 0, []), (8, .istore_n 3, 1, 0, 0, 0, []), (9, .iload_n 3, 1, 0, 0, 0, []), (10, .aload_n 0, 1, 0, 0, 0, []), (11, .getfield 40, 3, 5, 3, 0, [173, 0]), (14, .getfield 80, 3, 2, 0, 0, [69, 0]), (17, .if_icmp .ge 29, 3, 29, 0, 0, []), (20, .aload_n 0, 1, 0, 0, 0, []), (21, .getfield 34, 3, 5, 11, 0, [181, 0]), (24, .iload_n 1, 1, 0, 0, 0, []), (25, .bipush 8, 2, 0, 0, 0, []), (27, .imul, 1, 0, 0, 0, []), (28, .iload_n 3, 1, 0, 0, 0, []), (29, .iadd, 1, 0, 0, 0, []), (30, .iaload, 1, 0, 0, 0, []), (31, .ifCond .le 9, 3, 27, 0, 0, []), (34, .iload_n 2, 1, 0, 0, 0, []), (35, .iconst 1, 1, 0, 0, 0, []), (36, .iload_n 3, 1, 0, 0, 0, []), (37, .ishl, 1, 0, 0, 0, []), (38, .ior, 1, 0, 0, 0, []), (39, .istore_n 2, 1, 0, 0, 0, []), (40, .iinc 3 1, 3, 0, 0, 0, []), (43, .goto (-34), 3, 7, 0, 0, []), (46, .iload_n 2, 1, 0, 0, 0, []), (47, .ireturn, 1, 0, 0, 0, [])]
-- 31: LetterDays$Ways.sweep
def am_t31 : List am_En := [(0, .aload_n 0, 1, 0, 0, 0, []), (1, .getfield 73, 3, 5, 7, 0, [177, 0]), (4, .iconst 1, 1, 0, 0, 0, []), (5, .iload_n 1, 1, 0, 0, 0, []), (6, .ishl, 1, 0, 0, 0, []), (7, .iand, 1, 0, 0, 0, []), (8, .ifCond .ne 25, 3, 21, 0, 0, []), (11, .aload_n 0, 1, 0, 0, 0, []), (12, .iload_n 1, 1, 0, 0, 0, []), (13, .invokevirtual 85, 3, 32, 1, 0, [450, 452, 6]), (16, .aload_n 0, 1, 0, 0, 0, []), (17, .iload_n 1, 1, 0, 0, 0, []), (18, .invokevirtual 88, 3, 34, 1, 0, [464, 466, 9]), (21, .aload_n 0, 1, 0, 0, 0, []), (22, .dup, 1, 0, 0, 0, []), (23, .getfield 73, 3, 5, 7, 0, [177, 0]), (26, .iconst 1, 1, 0, 0, 0, []), (27, .iload_n 1, 1, 0, 0, 0, []), (28, .ishl, 1, 0, 0, 0, []), (29, .ior, 1, 0, 0, 0, []), (30, .putfield 73, 3, 5, 7, 0, [177, 0]), (33, .return_, 1, 0, 0, 0, [])]
-- 32: LetterDays$Ways.sweepUp
def am_t32 : List am_En := [(0, .aload_n 0, 1, 0, 0, 0, []), (1, .getfield 31, 3, 5, 10, 0, [180, 0]), (4, .iload_n 1, 1, 0, 0, 0, []), (5, .iconst 0, 1, 0, 0, 0, []), (6, .iastore, 1, 0, 0, 0, []), (7, .iconst 0, 1, 0, 0, 0, []), (8, .istore_n 2, 1, 0, 0, 0, []), (9, .iload_n 2, 1, 0, 0, 0, []), (10, .aload_n 0, 1, 0, 0, 0, []), (11, .getfield 40, 3, 5, 3, 0, [173, 0]), (14, .getfield 80, 3, 2, 0, 0, [69, 0]), (17, .if_icmp .ge 35, 3, 31, 0, 0, []), (20, .aload_n 0, 1, 0, 0, 0, []), (21, .getfield 34, 3, 5, 11, 0, [181, 0]), (24, .iload_n 1, 1, 0, 0, 0, []), (25, .bipush 8, 2, 0, 0, 0, []), (27, .imul, 1, 0, 0, 0, []), (28, .iload_n 2, 1, 0, 0, 0, []), (29, .iadd, 1, 0, 0, 0, []), (30, .sipush 200, 3, 0, 0, 0, []), (33, .iastore, 1, 0, 0, 0, []), (34, .aload_n 0, 1, 0, 0, 0, []), (35, .getfield 25, 3, 5, 8, 0, [178, 0]), (38, .iload_n 2, 1, 0, 0, 0, []), (39, .aload_n 0, 1, 0, 0, 0, []), (40, .getfield 9, 3, 5, 1, 0, [169, 0]), (43, .iload_n 2, 1, 0, 0, 0, []), (44, .iaload, 1, 0, 0, 0, []), (45, .iastore, 1, 0, 0, 0, []), (46, .iinc 2 1, 3, 0, 0, 0, []), (49, .goto (-40), 3, 7, 0, 0, []), (52, .iconst 1, 1, 0, 0, 0, []), (53, .istore_n 2, 1, 0, 0, 0, []), (54, .iconst 0, 1, 0, 0, 0, []), (55, .istore_n 3, 1, 0, 0, 0, []), (56, .iload_n 3, 1, 0, 0, 0, []), (57, .sipush 200, 3, 0, 0, 0, []), (60, .if_icmp .ge 134, 3, 115, 0, 0, []), (63, .iload_n 2, 1, 0, 0, 0, []), (64, .ifCond .eq 63, 3, 74, 0, 0, []), (67, .aload_n 0, 1, 0, 0, 0, []), (68, .getfield 25, 3, 5, 8, 0, [178, 0]), (71, .iload_n 1, 1, 0, 0, 0, []), (72, .iaload, 1, 0, 0, 0, []), (73, .iload_n 3, 1, 0, 0, 0, []), (74, .if_icmp .ge 53, 3, 74, 0, 0, []), (77, .aload_n 0, 1, 0, 0, 0, []), (78, .getfield 25, 3, 5, 8, 0, [178, 0]), (81, .iload_n 1, 1, 0, 0, 0, []), (82, .aload_n 0, 1, 0, 0, 0, []), (83, .getfield 21, 3, 5, 5, 0, [175, 0]), (86, .iload_n 1, 1, 0, 0, 0, []), (87, .iload_n 3, 1, 0, 0, 0, []), (88, .invokevirtual 91, 3, 43, 2, 0, [454, 415, 416]), (91, .iastore, 1, 0, 0, 0, []), (92, .aload_n 0, 1, 0, 0, 0, []), (93, .getfield 25, 3, 5, 8, 0, [178, 0]), (96, .iload_n 1, 1, 0, 0, 0, []), (97, .iaload, 1, 0, 0, 0, []), (98, .aload_n 0, 1, 0, 0, 0, []), (99, .getfield 15, 3, 5, 2, 0, [171, 0]), (102, .iload_n 1, 1, 0, 0, 0, []), (103, .iaload, 1, 0, 0, 0, []), (104, .if_icmp .gt 21, 3, 72, 0, 0, []), (107, .aload_n 0, 1, 0, 0, 0, []), (108, .getfield 21, 3, 5, 5, 0, [175, 0]), (111, .aload_n 0, 1, 0, 0, 0, []), (112, .getfield 25, 3, 5, 8, 0, [178, 0]), (115, .invokevirtual 95, 3, 41, 1, 0, [455, 419, 420]), (118, .ifCond .eq 7, 3, 72, 0, 0, []), (121, .iconst 1, 1, 0, 0, 0, []), (122, .goto 4, 3, 73, 0, 0, []), (125, .iconst 0, 1, 0, 0, 0, []), (126, .istore_n 2, 1, 0, 0, 0, []), (127, .iload_n 2, 1, 0, 0, 0, []), (128, .ifCond .eq 47, 3, 104, 0, 0, []), (131, .aload_n 0, 1, 0, 0, 0, []), (132, .getfield 25, 3, 5, 8, 0, [178, 0]), (135, .iload_n 1, 1, 0, 0, 0, []), (136, .iaload, 1, 0, 0, 0, []), (137, .iload_n 3, 1, 0, 0, 0, []), (138, .if_icmp .ne 37, 3, 104, 0, 0, []), (141, .aload_n 0, 1, 0, 0, 0, []), (142, .getfield 31, 3, 5, 10, 0, [180, 0]), (145, .iload_n 1, 1, 0, 0, 0, []), (146, .dup2, 1, 0, 0, 0, []), (147, .iaload, 1, 0, 0, 0, []), (148, .iconst 1, 1, 0, 0, 0, []), (149, .iadd, 1, 0, 0, 0, []), (150, .iastore, 1, 0, 0, 0, []), (151, .aload_n 0, 1, 0, 0, 0, []), (152, .getfield 28, 3, 5, 9, 0, [179, 0]), (155, .iload_n 1, 1, 0, 0, 0, []), (156, .sipush 200, 3, 0, 0, 0, []), (159, .imul, 1, 0, 0, 0, []), (160, .iload_n 3, 1, 0, 0, 0, []), (161, .iadd, 1, 0, 0, 0, []), (162, .aload_n 0, 1, 0, 0, 0, []), (163, .invokevirtual 98, 3, 35, 0, 0, [456, 458, 7]), (166, .iastore, 1, 0, 0, 0, []), (167, .aload_n 0, 1, 0, 0, 0, []), (168, .iload_n 1, 1, 0, 0, 0, []), (169, .invokevirtual 102, 3, 33, 1, 0, [460, 462, 8]), (172, .goto 16, 3, 113, 0, 0, []), (175, .aload_n 0, 1, 0, 0, 0, []), (176, .getfield 28, 3, 5, 9, 0, [179, 0]), (179, .iload_n 1, 1, 0, 0, 0, []), (180, .sipush 200, 3, 0, 0, 0, []), (183, .imul, 1, 0, 0, 0, []), (184, .iload_n 3, 1, 0, 0, 0, []), (185, .iadd, 1, 0, 0, 0, []), (186, .iconst (-1), 1, 0, 0, 0, []), (187, .iastore, 1, 0, 0, 0, []), (188, .iinc 3 1, 3, 0, 0, 0, []), (191, .goto (-135), 3, 35, 0, 0, []), (194, .return_, 1, 0, 0, 0, [])]
-- 33: LetterDays$Ways.lowerGaps
def am_t33 : List am_En := [(0, .iconst 0, 1, 0, 0, 0, []), (1, .istore_n 2, 1, 0, 0, 0, []), (2, .iload_n 2, 1, 0, 0, 0, []), (3, .aload_n 0, 1, 0, 0, 0, []), (4, .getfield 40, 3, 5, 3, 0, [173, 0]), (7, .getfield 80, 3, 2, 0, 0, [69, 0]), (10, .if_icmp .ge 50, 3, 38, 0, 0, []), (13, .aload_n 0, 1, 0, 0, 0, []), (14, .getfield 25, 3, 5, 8, 0, [178, 0]), (17, .iload_n 2, 1, 0, 0, 0, []), (18, .iaload, 1, 0, 0, 0, []), (19, .aload_n 0, 1, 0, 0, 0, []), (20, .getfield 25, 3, 5, 8, 0, [178, 0]), (23, .iload_n 1, 1, 0, 0, 0, []), (24, .iaload, 1, 0, 0, 0, []), (25, .isub, 1, 0, 0, 0, []), (26, .istore_n 3, 1, 0, 0, 0, []), (27, .iload_n 3, 1, 0, 0, 0, []), (28, .aload_n 0, 1, 0, 0, 0, []), (29, .getfield 34, 3, 5, 11, 0, [181, 0]), (32, .iload_n 1, 1, 0, 0, 0, []), (33, .bipush 8, 2, 0, 0, 0, []), (35, .imul, 1, 0, 0, 0, []), (36, .iload_n 2, 1, 0, 0, 0, []), (37, .iadd, 1, 0, 0, 0, []), (38, .iaload, 1, 0, 0, 0, []), (39, .if_icmp .ge 15, 3, 36, 0, 0, []), (42, .aload_n 0, 1, 0, 0, 0, []), (43, .getfield 34, 3, 5, 11, 0, [181, 0]), (46, .iload_n 1, 1, 0, 0, 0, []), (47, .bipush 8, 2, 0, 0, 0, []), (49, .imul, 1, 0, 0, 0, []), (50, .iload_n 2, 1, 0, 0, 0, []), (51, .iadd, 1, 0, 0, 0, []), (52, .iload_n 3, 1, 0, 0, 0, []), (53, .iastore, 1, 0, 0, 0, []), (54, .iinc 2 1, 3, 0, 0, 0, []), (57, .goto (-55), 3, 2, 0, 0, []), (60, .return_, 1, 0, 0, 0, [])]
-- 34: LetterDays$Ways.sweepDown
def am_t34 : List am_En := [(0, .aload_n 0, 1, 0, 0, 0, []), (1, .getfield 37, 3, 5, 12, 0, [182, 0]), (4, .iload_n 1, 1, 0, 0, 0, []), (5, .iconst 0, 1, 0, 0, 0, []), (6, .iastore, 1, 0, 0, 0, []), (7, .iconst 0, 1, 0, 0, 0, []), (8, .istore_n 2, 1, 0, 0, 0, []), (9, .iload_n 2, 1, 0, 0, 0, []), (10, .aload_n 0, 1, 0, 0, 0, []), (11, .getfield 40, 3, 5, 3, 0, [173, 0]), (14, .getfield 80, 3, 2, 0, 0, [69, 0]), (17, .if_icmp .ge 21, 3, 22, 0, 0, []), (20, .aload_n 0, 1, 0, 0, 0, []), (21, .getfield 25, 3, 5, 8, 0, [178, 0]), (24, .iload_n 2, 1, 0, 0, 0, []), (25, .aload_n 0, 1, 0, 0, 0, []), (26, .getfield 15, 3, 5, 2, 0, [171, 0]), (29, .iload_n 2, 1, 0, 0, 0, []), (30, .iaload, 1, 0, 0, 0, []), (31, .iastore, 1, 0, 0, 0, []), (32, .iinc 2 1, 3, 0, 0, 0, []), (35, .goto (-26), 3, 7, 0, 0, []), (38, .aload_n 0, 1, 0, 0, 0, []), (39, .getfield 15, 3, 5, 2, 0, [171, 0]), (42, .iload_n 1, 1, 0, 0, 0, []), (43, .iaload, 1, 0, 0, 0, []), (44, .istore_n 2, 1, 0, 0, 0, []), (45, .iload_n 2, 1, 0, 0, 0, []), (46, .aload_n 0, 1, 0, 0, 0, []), (47, .getfield 9, 3, 5, 1, 0, [169, 0]), (50, .iload_n 1, 1, 0, 0, 0, []), (51, .iaload, 1, 0, 0, 0, []), (52, .if_icmp .lt 66, 3, 70, 0, 0, []), (55, .aload_n 0, 1, 0, 0, 0, []), (56, .getfield 28, 3, 5, 9, 0, [179, 0]), (59, .iload_n 1, 1, 0, 0, 0, []), (60, .sipush 200, 3, 0, 0, 0, []), (63, .imul, 1, 0, 0, 0, []), (64, .iload_n 2, 1, 0, 0, 0, []), (65, .iadd, 1, 0, 0, 0, []), (66, .iaload, 1, 0, 0, 0, []), (67, .istore_n 3, 1, 0, 0, 0, []), (68, .iload_n 3, 1, 0, 0, 0, []), (69, .iconst (-1), 1, 0, 0, 0, []), (70, .if_icmp .eq 42, 3, 68, 0, 0, []), (73, .aload_n 0, 1, 0, 0, 0, []), (74, .getfield 25, 3, 5, 8, 0, [178, 0]), (77, .iload_n 1, 1, 0, 0, 0, []), (78, .iload_n 2, 1, 0, 0, 0, []), (79, .iastore, 1, 0, 0, 0, []), (80, .aload_n 0, 1, 0, 0, 0, []), (81, .getfield 21, 3, 5, 5, 0, [175, 0]), (84, .aload_n 0, 1, 0, 0, 0, []), (85, .getfield 25, 3, 5, 8, 0, [178, 0]), (88, .invokevirtual 105, 3, 42, 1, 0, [468, 431, 432]), (91, .aload_n 0, 1, 0, 0, 0, []), (92, .getfield 37, 3, 5, 12, 0, [182, 0]), (95, .iload_n 1, 1, 0, 0, 0, []), (96, .aload_n 0, 1, 0, 0, 0, []), (97, .getfield 37, 3, 5, 12, 0, [182, 0]), (100, .iload_n 1, 1, 0, 0, 0, []), (101, .iaload, 1, 0, 0, 0, []), (102, .aload_n 0, 1, 0, 0, 0, []), (103, .invokevirtual 98, 3, 35, 0, 0, [456, 458, 7]), (106, .iload_n 3, 1, 0, 0, 0, []), (107, .isub, 1, 0, 0, 0, []), (108, .invokestatic 108, 3, 1000, 2, 0, [469, 405]), (111, .iastore, 1, 0, 0, 0, []), (112, .iinc 2 (-1), 3, 0, 0, 0, []), (115, .goto (-70), 3, 27, 0, 0, []), (118, .return_, 1, 0, 0, 0, [])]
-- 35: LetterDays$Ways.sumOfDays
def am_t35 : List am_En := [(0, .iconst 0, 1, 0, 0, 0, []), (1, .istore_n 1, 1, 0, 0, 0, []), (2, .iconst 0, 1, 0, 0, 0, []), (3, .istore_n 2, 1, 0, 0, 0, []), (4, .iload_n 2, 1, 0, 0, 0, []), (5, .aload_n 0, 1, 0, 0, 0, []), (6, .getfield 40, 3, 5, 3, 0, [173, 0]), (9, .getfield 80, 3, 2, 0, 0, [69, 0]), (12, .if_icmp .ge 18, 3, 18, 0, 0, []), (15, .iload_n 1, 1, 0, 0, 0, []), (16, .aload_n 0, 1, 0, 0, 0, []), (17, .getfield 25, 3, 5, 8, 0, [178, 0]), (20, .iload_n 2, 1, 0, 0, 0, []), (21, .iaload, 1, 0, 0, 0, []), (22, .iadd, 1, 0, 0, 0, []), (23, .istore_n 1, 1, 0, 0, 0, []), (24, .iinc 2 1, 3, 0, 0, 0, []), (27, .goto (-23), 3, 4, 0, 0, []), (30, .iload_n 1, 1, 0, 0, 0, []), (31, .ireturn, 1, 0, 0, 0, [])]
-- 36: LetterDays$Web.weave
def am_t36 : List am_En := [(0, .aload_n 0, 1, 0, 0, 0, []), (1, .aload_n 1, 1, 0, 0, 0, []), (2, .getfield 30, 3, 2, 0, 0, [66, 0]), (5, .putfield 36, 3, 6, 0, 0, [139, 0]), (8, .aload_n 0, 1, 0, 0, 0, []), (9, .iconst 0, 1, 0, 0, 0, []), (10, .putfield 39, 3, 6, 1, 0, [140, 1]), (13, .aload_n 0, 1, 0, 0, 0, []), (14, .iconst 0, 1, 0, 0, 0, []), (15, .putfield 43, 3, 6, 5, 0, [144, 0]), (18, .iconst 0, 1, 0, 0, 0, []), (19, .istore 4, 2, 0, 0, 0, []), (21, .iload 4, 2, 0, 0, 0, []), (23, .aload_n 0, 1, 0, 0, 0, []), (24, .getfield 36, 3, 6, 0, 0, [139, 0]), (27, .if_icmp .ge 45, 3, 39, 0, 0, []), (30, .aload_n 0, 1, 0, 0, 0, []), (31, .getfield 9, 3, 6, 2, 0, [141, 0]), (34, .iload 4, 2, 0, 0, 0, []), (36, .aload_n 1, 1, 0, 0, 0, []), (37, .getfield 46, 3, 2, 1, 0, [71, 0]), (40, .iload 4, 2, 0, 0, 0, []), (42, .iaload, 1, 0, 0, 0, []), (43, .iastore, 1, 0, 0, 0, []), (44, .aload_n 0, 1, 0, 0, 0, []), (45, .getfield 15, 3, 6, 3, 0, [142, 0]), (48, .iload 4, 2, 0, 0, 0, []), (50, .aload_n 1, 1, 0, 0, 0, []), (51, .getfield 49, 3, 2, 2, 0, [74, 0]), (54, .iload 4, 2, 0, 0, 0, []), (56, .iaload, 1, 0, 0, 0, []), (57, .iastore, 1, 0, 0, 0, []), (58, .aload_n 0, 1, 0, 0, 0, []), (59, .getfield 18, 3, 6, 4, 0, [143, 0]), (62, .iload 4, 2, 0, 0, 0, []), (64, .iconst (-1), 1, 0, 0, 0, []), (65, .iastore, 1, 0, 0, 0, []), (66, .iinc 4 1, 3, 0, 0, 0, []), (69, .goto (-48), 3, 12, 0, 0, []), (72, .iconst 0, 1, 0, 0, 0, []), (73, .istore 4, 2, 0, 0, 0, []), (75, .iload 4, 2, 0, 0, 0, []), (77, .aload_n 2, 1, 0, 0, 0, []), (78, .getfield 52, 3, 3, 0, 0, [92, 0]), (81, .if_icmp .ge 50, 3, 71, 0, 0, []), (84, .iload_n 3, 1, 0, 0, 0, []), (85, .iconst 1, 1, 0, 0, 0, []), (86, .iload 4, 2, 0, 0, 0, []), (88, .ishl, 1, 0, 0, 0, []), (89, .iand, 1, 0, 0, 0, []), (90, .ifCond .eq 35, 3, 69, 0, 0, []), (93, .aload_n 0, 1, 0, 0, 0, []), (94, .aload_n 2, 1, 0, 0, 0, []), (95, .getfield 55, 3, 3, 2, 0, [99, 0]), (98, .iload 4, 2, 0, 0, 0, []), (100, .iaload, 1, 0, 0, 0, []), (101, .aload_n 2, 1, 0, 0, 0, []), (102, .getfield 58, 3, 3, 3, 0, [102, 0]), (105, .iload 4, 2, 0, 0, 0, []), (107, .iaload, 1, 0, 0, 0, []), (108, .aload_n 2, 1, 0, 0, 0, []), (109, .getfield 61, 3, 3, 4, 0, [105, 0]), (112, .iload 4, 2, 0, 0, 0, []), (114, .iaload, 1, 0, 0, 0, []), (115, .aload_n 2, 1, 0, 0, 0, []), (116, .getfield 64, 3, 3, 5, 0, [108, 0]), (119, .iload 4, 2, 0, 0, 0, []), (121, .iaload, 1, 0, 0, 0, []), (122, .invokevirtual 67, 3, 37, 4, 0, [396, 398, 2]), (125, .iinc 4 1, 3, 0, 0, 0, []), (128, .goto (-53), 3, 41, 0, 0, []), (131, .return_, 1, 0, 0, 0, [])]
-- 37: LetterDays$Web.heed
def am_t37 : List am_En := [(0, .iload_n 1, 1, 0, 0, 0, []), (1, .tableswitch 103 0 3 #[31, 42, 63, 83], 31, 43, 0, 0, [2, 8, 21, 32]), (32, .aload_n 0, 1, 0, 0, 0, []), (33, .iload_n 3, 1, 0, 0, 0, []), (34, .iload_n 2, 1, 0, 0, 0, []), (35, .iload 4, 2, 0, 0, 0, []), (37, .invokevirtual 71, 3, 38, 3, 0, [400, 402, 3]), (40, .goto 109, 3, 68, 0, 0, []), (43, .aload_n 0, 1, 0, 0, 0, []), (44, .iload_n 3, 1, 0, 0, 0, []), (45, .iload_n 2, 1, 0, 0, 0, []), (46, .iload 4, 2, 0, 0, 0, []), (48, .ineg, 1, 0, 0, 0, []), (49, .invokevirtual 71, 3, 38, 3, 0, [400, 402, 3]), (52, .aload_n 0, 1, 0, 0, 0, []), (53, .iload_n 2, 1, 0, 0, 0, []), (54, .iload_n 3, 1, 0, 0, 0, []), (55, .iload 4, 2, 0, 0, 0, []), (57, .ineg, 1, 0, 0, 0, []), (58, .invokevirtual 71, 3, 38, 3, 0, [400, 402, 3]), (61, .goto 88, 3, 68, 0, 0, []), (64, .aload_n 0, 1, 0, 0, 0, []), (65, .getfield 9, 3, 6, 2, 0, [141, 0]), (68, .iload_n 2, 1, 0, 0, 0, []), (69, .aload_n 0, 1, 0, 0, 0, []), (70, .getfield 9, 3, 6, 2, 0, [141, 0]), (73, .iload_n 2, 1, 0, 0, 0, []), (74, .iaload, 1, 0, 0, 0, []), (75, .iload 4, 2, 0, 0, 0, []), (77, .invokestatic 75, 3, 1000, 2, 0, [404, 405]), (80, .iastore, 1, 0, 0, 0, []), (81, .goto 68, 3, 68, 0, 0, []), (84, .aload_n 0, 1, 0, 0, 0, []), (85, .getfield 15, 3, 6, 3, 0, [142, 0]), (88, .iload_n 2, 1, 0, 0, 0, []), (89, .aload_n 0, 1, 0, 0, 0, []), (90, .getfield 15, 3, 6, 3, 0, [142, 0]), (93, .iload_n 2, 1, 0, 0, 0, []), (94, .iaload, 1, 0, 0, 0, []), (95, .iload 4, 2, 0, 0, 0, []), (97, .invokestatic 81, 3, 1001, 2, 0, [407, 408]), (100, .iastore, 1, 0, 0, 0, []), (101, .goto 48, 3, 68, 0, 0, []), (104, .aload_n 0, 1, 0, 0, 0, []), (105, .aload_n 0, 1, 0, 0, 0, []), (106, .getfield 39, 3, 6, 1, 0, [140, 1]), (109, .ifCond .ne 24, 3, 59, 0, 0, []), (112, .aload_n 0, 1, 0, 0, 0, []), (113, .getfield 18, 3, 6, 4, 0, [143, 0]), (116, .iload_n 2, 1, 0, 0, 0, []), (117, .iaload, 1, 0, 0, 0, []), (118, .iconst (-1), 1, 0, 0, 0, []), (119, .if_icmp .eq 18, 3, 61, 0, 0, []), (122, .aload_n 0, 1, 0, 0, 0, []), (123, .getfield 18, 3, 6, 4, 0, [143, 0]), (126, .iload_n 2, 1, 0, 0, 0, []), (127, .iaload, 1, 0, 0, 0, []), (128, .iload 4, 2, 0, 0, 0, []), (130, .if_icmp .eq 7, 3, 61, 0, 0, []), (133, .iconst 1, 1, 0, 0, 0, []), (134, .goto 4, 3, 62, 0, 0, []), (137, .iconst 0, 1, 0, 0, 0, []), (138, .putfield 39, 3, 6, 1, 0, [140, 1]), (141, .aload_n 0, 1, 0, 0, 0, []), (142, .getfield 18, 3, 6, 4, 0, [143, 0]), (145, .iload_n 2, 1, 0, 0, 0, []), (146, .iload 4, 2, 0, 0, 0, []), (148, .iastore, 1, 0, 0, 0, []), (149, .return_, 1, 0, 0, 0, [])]
-- 38: LetterDays$Web.link
def am_t38 : List am_En := [(0, .aload_n 0, 1, 0, 0, 0, []), (1, .getfield 43, 3, 6, 5, 0, [144, 0]), (4, .bipush 20, 2, 0, 0, 0, []), (6, .if_icmp .ge 43, 3, 28, 0, 0, []), (9, .aload_n 0, 1, 0, 0, 0, []), (10, .getfield 21, 3, 6, 6, 0, [145, 0]), (13, .aload_n 0, 1, 0, 0, 0, []), (14, .getfield 43, 3, 6, 5, 0, [144, 0]), (17, .iload_n 1, 1, 0, 0, 0, []), (18, .iastore, 1, 0, 0, 0, []), (19, .aload_n 0, 1, 0, 0, 0, []), (20, .getfield 24, 3, 6, 7, 0, [146, 0]), (23, .aload_n 0, 1, 0, 0, 0, []), (24, .getfield 43, 3, 6, 5, 0, [144, 0]), (27, .iload_n 2, 1, 0, 0, 0, []), (28, .iastore, 1, 0, 0, 0, []), (29, .aload_n 0, 1, 0, 0, 0, []), (30, .getfield 27, 3, 6, 8, 0, [147, 0]), (33, .aload_n 0, 1, 0, 0, 0, []), (34, .getfield 43, 3, 6, 5, 0, [144, 0]), (37, .iload_n 3, 1, 0, 0, 0, []), (38, .iastore, 1, 0, 0, 0, []), (39, .aload_n 0, 1, 0, 0, 0, []), (40, .dup, 1, 0, 0, 0, []), (41, .getfield 43, 3, 6, 5, 0, [144, 0]), (44, .iconst 1, 1, 0, 0, 0, []), (45, .iadd, 1, 0, 0, 0, []), (46, .putfield 43, 3, 6, 5, 0, [144, 0]), (49, .return_, 1, 0, 0, 0, [])]
-- 39: LetterDays$Web.least
def am_t39 : List am_En := [(0, .aload_n 0, 1, 0, 0, 0, []), (1, .getfield 39, 3, 6, 1, 0, [140, 1]), (4, .ifCond .eq 5, 3, 5, 0, 0, []), (7, .iconst 0, 1, 0, 0, 0, []), (8, .ireturn, 1, 0, 0, 0, []), (9, .iconst 0, 1, 0, 0, 0, []), (10, .istore_n 2, 1, 0, 0, 0, []), (11, .iload_n 2, 1, 0, 0, 0, []), (12, .aload_n 0, 1, 0, 0, 0, []), (13, .getfield 36, 3, 6, 0, 0, [139, 0]), (16, .if_icmp .ge 37, 3, 33, 0, 0, []), (19, .aload_n 1, 1, 0, 0, 0, []), (20, .iload_n 2, 1, 0, 0, 0, []), (21, .aload_n 0, 1, 0, 0, 0, []), (22, .iload_n 2, 1, 0, 0, 0, []), (23, .aload_n 0, 1, 0, 0, 0, []), (24, .getfield 9, 3, 6, 2, 0, [141, 0]), (27, .iload_n 2, 1, 0, 0, 0, []), (28, .iaload, 1, 0, 0, 0, []), (29, .invokevirtual 84, 3, 43, 2, 0, [414, 415, 416]), (32, .iastore, 1, 0, 0, 0, []), (33, .aload_n 1, 1, 0, 0, 0, []), (34, .iload_n 2, 1, 0, 0, 0, []), (35, .iaload, 1, 0, 0, 0, []), (36, .aload_n 0, 1, 0, 0, 0, []), (37, .getfield 15, 3, 6, 3, 0, [142, 0]), (40, .iload_n 2, 1, 0, 0, 0, []), (41, .iaload, 1, 0, 0, 0, []), (42, .if_icmp .le 5, 3, 31, 0, 0, []), (45, .iconst 0, 1, 0, 0, 0, []), (46, .ireturn, 1, 0, 0, 0, []), (47, .iinc 2 1, 3, 0, 0, 0, []), (50, .goto (-39), 3, 7, 0, 0, []), (53, .aload_n 0, 1, 0, 0, 0, []), (54, .aload_n 1, 1, 0, 0, 0, []), (55, .invokevirtual 87, 3, 41, 1, 0, [418, 419, 420]), (58, .ireturn, 1, 0, 0, 0, [])]
-- 40: LetterDays$Web.greatest
def am_t40 : List am_En := [(0, .iconst 0, 1, 0, 0, 0, []), (1, .istore_n 2, 1, 0, 0, 0, []), (2, .iload_n 2, 1, 0, 0, 0, []), (3, .aload_n 0, 1, 0, 0, 0, []), (4, .getfield 36, 3, 6, 0, 0, [139, 0]), (7, .if_icmp .ge 23, 3, 18, 0, 0, []), (10, .aload_n 1, 1, 0, 0, 0, []), (11, .iload_n 2, 1, 0, 0, 0, []), (12, .aload_n 0, 1, 0, 0, 0, []), (13, .iload_n 2, 1, 0, 0, 0, []), (14, .aload_n 0, 1, 0, 0, 0, []), (15, .getfield 15, 3, 6, 3, 0, [142, 0]), (18, .iload_n 2, 1, 0, 0, 0, []), (19, .iaload, 1, 0, 0, 0, []), (20, .invokevirtual 91, 3, 44, 2, 0, [426, 428, 4]), (23, .iastore, 1, 0, 0, 0, []), (24, .iinc 2 1, 3, 0, 0, 0, []), (27, .goto (-25), 3, 2, 0, 0, []), (30, .aload_n 0, 1, 0, 0, 0, []), (31, .aload_n 1, 1, 0, 0, 0, []), (32, .invokevirtual 94, 3, 42, 1, 0, [430, 431, 432]), (35, .return_, 1, 0, 0, 0, [])]
-- 41: LetterDays$Web.rise
def am_t41 : List am_En := [(0, .iconst 0, 1, 0, 0, 0, []), (1, .istore_n 2, 1, 0, 0, 0, []), (2, .iload_n 2, 1, 0, 0, 0, []), (3, .sipush 1601, 3, 0, 0, 0, []), (6, .if_icmp .ge 102, 3, 62, 0, 0, []), (9, .iconst 0, 1, 0, 0, 0, []), (10, .istore_n 3, 1, 0, 0, 0, []), (11, .iconst 0, 1, 0, 0, 0, []), (12, .istore 4, 2, 0, 0, 0, []), (14, .iload 4, 2, 0, 0, 0, []), (16, .aload_n 0, 1, 0, 0, 0, []), (17, .getfield 43, 3, 6, 5, 0, [144, 0]), (20, .if_icmp .ge 76, 3, 56, 0, 0, []), (23, .aload_n 0, 1, 0, 0, 0, []), (24, .getfield 24, 3, 6, 7, 0, [146, 0]), (27, .iload 4, 2, 0, 0, 0, []), (29, .iaload, 1, 0, 0, 0, []), (30, .istore 5, 2, 0, 0, 0, []), (32, .aload_n 1, 1, 0, 0, 0, []), (33, .aload_n 0, 1, 0, 0, 0, []), (34, .getfield 21, 3, 6, 6, 0, [145, 0]), (37, .iload 4, 2, 0, 0, 0, []), (39, .iaload, 1, 0, 0, 0, []), (40, .iaload, 1, 0, 0, 0, []), (41, .aload_n 0, 1, 0, 0, 0, []), (42, .getfield 27, 3, 6, 8, 0, [147, 0]), (45, .iload 4, 2, 0, 0, 0, []), (47, .iaload, 1, 0, 0, 0, []), (48, .iadd, 1, 0, 0, 0, []), (49, .istore 6, 2, 0, 0, 0, []), (51, .aload_n 1, 1, 0, 0, 0, []), (52, .iload 5, 2, 0, 0, 0, []), (54, .iaload, 1, 0, 0, 0, []), (55, .iload 6, 2, 0, 0, 0, []), (57, .if_icmp .ge 33, 3, 54, 0, 0, []), (60, .aload_n 1, 1, 0, 0, 0, []), (61, .iload 5, 2, 0, 0, 0, []), (63, .aload_n 0, 1, 0, 0, 0, []), (64, .iload 5, 2, 0, 0, 0, []), (66, .iload 6, 2, 0, 0, 0, []), (68, .invokevirtual 84, 3, 43, 2, 0, [414, 415, 416]), (71, .iastore, 1, 0, 0, 0, []), (72, .aload_n 1, 1, 0, 0, 0, []), (73, .iload 5, 2, 0, 0, 0, []), (75, .iaload, 1, 0, 0, 0, []), (76, .aload_n 0, 1, 0, 0, 0, []), (77, .getfield 15, 3, 6, 3, 0, [142, 0]), (80, .iload 5, 2, 0, 0, 0, []), (82, .iaload, 1, 0, 0, 0, []), (83, .if_icmp .le 5, 3, 52, 0, 0, []), (86, .iconst 0, 1, 0, 0, 0, []), (87, .ireturn, 1, 0, 0, 0, []), (88, .iconst 1, 1, 0, 0, 0, []), (89, .istore_n 3, 1, 0, 0, 0, []), (90, .iinc 4 1, 3, 0, 0, 0, []), (93, .goto (-79), 3, 9, 0, 0, []), (96, .iload_n 3, 1, 0, 0, 0, []), (97, .ifCond .ne 5, 3, 60, 0, 0, []), (100, .iconst 1, 1, 0, 0, 0, []), (101, .ireturn, 1, 0, 0, 0, []), (102, .iinc 2 1, 3, 0, 0, 0, []), (105, .goto (-103), 3, 2, 0, 0, []), (108, .iconst 0, 1, 0, 0, 0, []), (109, .ireturn, 1, 0, 0, 0, [])]
-- 42: LetterDays$Web.sink
def am_t42 : List am_En := [(0, .iconst 0, 1, 0, 0, 0, []), (1, .istore_n 2, 1, 0, 0, 0, []), (2, .iload_n 2, 1, 0, 0, 0, []), (3, .sipush 1601, 3, 0, 0, 0, []), (6, .if_icmp .ge 85, 3, 51, 0, 0, []), (9, .iconst 0, 1, 0, 0, 0, []), (10, .istore_n 3, 1, 0, 0, 0, []), (11, .iconst 0, 1, 0, 0, 0, []), (12, .istore 4, 2, 0, 0, 0, []), (14, .iload 4, 2, 0, 0, 0, []), (16, .aload_n 0, 1, 0, 0, 0, []), (17, .getfield 43, 3, 6, 5, 0, [144, 0]), (20, .if_icmp .ge 60, 3, 46, 0, 0, []), (23, .aload_n 0, 1, 0, 0, 0, []), (24, .getfield 21, 3, 6, 6, 0, [145, 0]), (27, .iload 4, 2, 0, 0, 0, []), (29, .iaload, 1, 0, 0, 0, []), (30, .istore 5, 2, 0, 0, 0, []), (32, .aload_n 1, 1, 0, 0, 0, []), (33, .aload_n 0, 1, 0, 0, 0, []), (34, .getfield 24, 3, 6, 7, 0, [146, 0]), (37, .iload 4, 2, 0, 0, 0, []), (39, .iaload, 1, 0, 0, 0, []), (40, .iaload, 1, 0, 0, 0, []), (41, .aload_n 0, 1, 0, 0, 0, []), (42, .getfield 27, 3, 6, 8, 0, [147, 0]), (45, .iload 4, 2, 0, 0, 0, []), (47, .iaload, 1, 0, 0, 0, []), (48, .isub, 1, 0, 0, 0, []), (49, .istore 6, 2, 0, 0, 0, []), (51, .aload_n 1, 1, 0, 0, 0, []), (52, .iload 5, 2, 0, 0, 0, []), (54, .iaload, 1, 0, 0, 0, []), (55, .iload 6, 2, 0, 0, 0, []), (57, .if_icmp .le 17, 3, 44, 0, 0, []), (60, .aload_n 1, 1, 0, 0, 0, []), (61, .iload 5, 2, 0, 0, 0, []), (63, .aload_n 0, 1, 0, 0, 0, []), (64, .iload 5, 2, 0, 0, 0, []), (66, .iload 6, 2, 0, 0, 0, []), (68, .invokevirtual 91, 3, 44, 2, 0, [426, 428, 4]), (71, .iastore, 1, 0, 0, 0, []), (72, .iconst 1, 1, 0, 0, 0, []), (73, .istore_n 3, 1, 0, 0, 0, []), (74, .iinc 4 1, 3, 0, 0, 0, []), (77, .goto (-63), 3, 9, 0, 0, []), (80, .iload_n 3, 1, 0, 0, 0, []), (81, .ifCond .ne 4, 3, 49, 0, 0, []), (84, .return_, 1, 0, 0, 0, []), (85, .iinc 2 1, 3, 0, 0, 0, []), (88, .goto (-86), 3, 2, 0, 0, []), (91, .return_, 1, 0, 0, 0, [])]
-- 43: LetterDays$Web.notBefore
def am_t43 : List am_En := [(0, .aload_n 0, 1, 0, 0, 0, []), (1, .getfield 18, 3, 6, 4, 0, [143, 0]), (4, .iload_n 1, 1, 0, 0, 0, []), (5, .iaload, 1, 0, 0, 0, []), (6, .iconst (-1), 1, 0, 0, 0, []), (7, .if_icmp .ne 7, 3, 8, 0, 0, []), (10, .iload_n 2, 1, 0, 0, 0, []), (11, .goto 22, 3, 22, 0, 0, []), (14, .iload_n 2, 1, 0, 0, 0, []), (15, .aload_n 0, 1, 0, 0, 0, []), (16, .getfield 18, 3, 6, 4, 0, [143, 0]), (19, .iload_n 1, 1, 0, 0, 0, []), (20, .iaload, 1, 0, 0, 0, []), (21, .bipush 7, 2, 0, 0, 0, []), (23, .iadd, 1, 0, 0, 0, []), (24, .iload_n 2, 1, 0, 0, 0, []), (25, .bipush 7, 2, 0, 0, 0, []), (27, .irem, 1, 0, 0, 0, []), (28, .isub, 1, 0, 0, 0, []), (29, .bipush 7, 2, 0, 0, 0, []), (31, .irem, 1, 0, 0, 0, []), (32, .iadd, 1, 0, 0, 0, []), (33, .ireturn, 1, 0, 0, 0, [])]
-- 44: LetterDays$Web.notBehind
def am_t44 : List am_En := [(0, .aload_n 0, 1, 0, 0, 0, []), (1, .getfield 18, 3, 6, 4, 0, [143, 0]), (4, .iload_n 1, 1, 0, 0, 0, []), (5, .iaload, 1, 0, 0, 0, []), (6, .iconst (-1), 1, 0, 0, 0, []), (7, .if_icmp .ne 7, 3, 8, 0, 0, []), (10, .iload_n 2, 1, 0, 0, 0, []), (11, .goto 22, 3, 22, 0, 0, []), (14, .iload_n 2, 1, 0, 0, 0, []), (15, .iload_n 2, 1, 0, 0, 0, []), (16, .bipush 7, 2, 0, 0, 0, []), (18, .irem, 1, 0, 0, 0, []), (19, .bipush 7, 2, 0, 0, 0, []), (21, .iadd, 1, 0, 0, 0, []), (22, .aload_n 0, 1, 0, 0, 0, []), (23, .getfield 18, 3, 6, 4, 0, [143, 0]), (26, .iload_n 1, 1, 0, 0, 0, []), (27, .iaload, 1, 0, 0, 0, []), (28, .isub, 1, 0, 0, 0, []), (29, .bipush 7, 2, 0, 0, 0, []), (31, .irem, 1, 0, 0, 0, []), (32, .isub, 1, 0, 0, 0, []), (33, .ireturn, 1, 0, 0, 0, [])]
-- 45: LetterDays.letter
def am_t45 : List am_En := [(0, .iload_n 1, 1, 0, 0, 0, []), (1, .iload_n 2, 1, 0, 0, 0, []), (2, .invokestatic 53, 3, 70, 2, 0, [302, 303]), (5, .ifCond .ne 6, 3, 6, 0, 0, []), (8, .bipush (-2), 2, 0, 0, 0, []), (10, .ireturn, 1, 0, 0, 0, []), (11, .aload_n 0, 1, 0, 0, 0, []), (12, .getfield 10, 3, 7, 0, 0, [279, 0]), (15, .getfield 57, 3, 2, 0, 0, [68, 0]), (18, .bipush 8, 2, 0, 0, 0, []), (20, .if_icmp .lt 6, 3, 13, 0, 0, []), (23, .bipush (-4), 2, 0, 0, 0, []), (25, .ireturn, 1, 0, 0, 0, []), (26, .aload_n 0, 1, 0, 0, 0, []), (27, .getfield 10, 3, 7, 0, 0, [279, 0]), (30, .getfield 57, 3, 2, 0, 0, [68, 0]), (33, .istore_n 3, 1, 0, 0, 0, []), (34, .aload_n 0, 1, 0, 0, 0, []), (35, .getfield 10, 3, 7, 0, 0, [279, 0]), (38, .iload_n 3, 1, 0, 0, 0, []), (39, .iconst 1, 1, 0, 0, 0, []), (40, .iadd, 1, 0, 0, 0, []), (41, .putfield 57, 3, 2, 0, 0, [68, 0]), (44, .aload_n 0, 1, 0, 0, 0, []), (45, .getfield 10, 3, 7, 0, 0, [279, 0]), (48, .getfield 61, 3, 2, 1, 0, [72, 0]), (51, .iload_n 3, 1, 0, 0, 0, []), (52, .iload_n 1, 1, 0, 0, 0, []), (53, .iastore, 1, 0, 0, 0, []), (54, .aload_n 0, 1, 0, 0, 0, []), (55, .getfield 10, 3, 7, 0, 0, [279, 0]), (58, .getfield 65, 3, 2, 2, 0, [75, 0]), (61, .iload_n 3, 1, 0, 0, 0, []), (62, .iload_n 2, 1, 0, 0, 0, []), (63, .iastore, 1, 0, 0, 0, []), (64, .aload_n 0, 1, 0, 0, 0, []), (65, .invokevirtual 68, 3, 74, 0, 0, [305, 307, 0]), (68, .iload_n 3, 1, 0, 0, 0, []), (69, .ireturn, 1, 0, 0, 0, [])]
-- 46: LetterDays.stamp
def am_t46 : List am_En := [(0, .aload_n 0, 1, 0, 0, 0, []), (1, .getfield 10, 3, 7, 0, 0, [279, 0]), (4, .iload_n 1, 1, 0, 0, 0, []), (5, .invokevirtual 71, 3, 12, 1, 0, [313, 314, 315]), (8, .ifCond .ne 5, 3, 7, 0, 0, []), (11, .iconst (-1), 1, 0, 0, 0, []), (12, .ireturn, 1, 0, 0, 0, []), (13, .iload_n 2, 1, 0, 0, 0, []), (14, .iload_n 3, 1, 0, 0, 0, []), (15, .invokestatic 53, 3, 70, 2, 0, [302, 303]), (18, .ifCond .ne 6, 3, 13, 0, 0, []), (21, .bipush (-2), 2, 0, 0, 0, []), (23, .ireturn, 1, 0, 0, 0, []), (24, .aload_n 0, 1, 0, 0, 0, []), (25, .getfield 10, 3, 7, 0, 0, [279, 0]), (28, .getfield 61, 3, 2, 1, 0, [72, 0]), (31, .iload_n 1, 1, 0, 0, 0, []), (32, .iaload, 1, 0, 0, 0, []), (33, .istore 4, 2, 0, 0, 0, []), (35, .aload_n 0, 1, 0, 0, 0, []), (36, .getfield 10, 3, 7, 0, 0, [279, 0]), (39, .getfield 61, 3, 2, 1, 0, [72, 0]), (42, .iload_n 1, 1, 0, 0, 0, []), (43, .iload_n 2, 1, 0, 0, 0, []), (44, .iastore, 1, 0, 0, 0, []), (45, .aload_n 0, 1, 0, 0, 0, []), (46, .getfield 10, 3, 7, 0, 0, [279, 0]), (49, .getfield 65, 3, 2, 2, 0, [75, 0]), (52, .iload_n 1, 1, 0, 0, 0, []), (53, .iload_n 3, 1, 0, 0, 0, []), (54, .iastore, 1, 0, 0, 0, []), (55, .aload_n 0, 1, 0, 0, 0, []), (56, .invokevirtual 68, 3, 74, 0, 0, [305, 307, 0]), (59, .iload 4, 2, 0, 0, 0, []), (61, .ireturn, 1, 0, 0, 0, [])]
-- 47: LetterDays.note
def am_t47 : List am_En := [(0, .iload_n 1, 1, 0, 0, 0, []), (1, .ifCond .lt 8, 3, 5, 0, 0, []), (4, .iload_n 1, 1, 0, 0, 0, []), (5, .iconst 4, 1, 0, 0, 0, []), (6, .if_icmp .le 6, 3, 7, 0, 0, []), (9, .bipush (-2), 2, 0, 0, 0, []), (11, .ireturn, 1, 0, 0, 0, []), (12, .aload_n 0, 1, 0, 0, 0, []), (13, .getfield 10, 3, 7, 0, 0, [279, 0]), (16, .iload_n 2, 1, 0, 0, 0, []), (17, .invokevirtual 71, 3, 12, 1, 0, [313, 314, 315]), (20, .ifCond .eq 31, 3, 26, 0, 0, []), (23, .aload_n 0, 1, 0, 0, 0, []), (24, .getfield 10, 3, 7, 0, 0, [279, 0]), (27, .iload_n 3, 1, 0, 0, 0, []), (28, .invokevirtual 71, 3, 12, 1, 0, [313, 314, 315]), (31, .ifCond .eq 20, 3, 26, 0, 0, []), (34, .iload_n 1, 1, 0, 0, 0, []), (35, .invokestatic 75, 3, 72, 1, 0, [321, 322]), (38, .iload_n 2, 1, 0, 0, 0, []), (39, .iload_n 3, 1, 0, 0, 0, []), (40, .if_icmp .ne 7, 3, 24, 0, 0, []), (43, .iconst 1, 1, 0, 0, 0, []), (44, .goto 4, 3, 25, 0, 0, []), (47, .iconst 0, 1, 0, 0, 0, []), (48, .if_icmp .ne 5, 3, 28, 0, 0, []), (51, .iconst (-1), 1, 0, 0, 0, []), (52, .ireturn, 1, 0, 0, 0, []), (53, .iload 4, 2, 0, 0, 0, []), (55, .ifCond .lt 25, 3, 40, 0, 0, []), (58, .iload 4, 2, 0, 0, 0, []), (60, .iload_n 1, 1, 0, 0, 0, []), (61, .invokestatic 78, 3, 73, 1, 0, [324, 325]), (64, .if_icmp .gt 16, 3, 40, 0, 0, []), (67, .iload 5, 2, 0, 0, 0, []), (69, .iconst 1, 1, 0, 0, 0, []), (70, .if_icmp .lt 10, 3, 40, 0, 0, []), (73, .iload 5, 2, 0, 0, 0, []), (75, .bipush 9, 2, 0, 0, 0, []), (77, .if_icmp .le 6, 3, 42, 0, 0, []), (80, .bipush (-2), 2, 0, 0, 0, []), (82, .ireturn, 1, 0, 0, 0, []), (83, .aload_n 0, 1, 0, 0, 0, []), (84, .getfield 19, 3, 7, 1, 0, [280, 0]), (87, .getfield 82, 3, 3, 0, 0, [93, 0]), (90, .bipush 10, 2, 0, 0, 0, []), (92, .if_icmp .lt 6, 3, 49, 0, 0, []), (95, .bipush (-4), 2, 0, 0, 0, []), (97, .ireturn, 1, 0, 0, 0, []), (98, .aload_n 0, 1, 0, 0, 0, []), (99, .getfield 19, 3, 7, 1, 0, [280, 0]), (102, .getfield 82, 3, 3, 0, 0, [93, 0]), (105, .istore 6, 2, 0, 0, 0, []), (107, .aload_n 0, 1, 0, 0, 0, []), (108, .getfield 19, 3, 7, 1, 0, [280, 0]), (111, .iload 6, 2, 0, 0, 0, []), (113, .iconst 1, 1, 0, 0, 0, []), (114, .iadd, 1, 0, 0, 0, []), (115, .putfield 82, 3, 3, 0, 0, [93, 0]), (118, .aload_n 0, 1, 0, 0, 0, []), (119, .getfield 19, 3, 7, 1, 0, [280, 0]), (122, .getfield 83, 3, 3, 2, 0, [100, 0]), (125, .iload 6, 2, 0, 0, 0, []), (127, .iload_n 1, 1, 0, 0, 0, []), (128, .iastore, 1, 0, 0, 0, []), (129, .aload_n 0, 1, 0, 0, 0, []), (130, .getfield 19, 3, 7, 1, 0, [280, 0]), (133, .getfield 86, 3, 3, 3, 0, [103, 0]), (136, .iload 6, 2, 0, 0, 0, []), (138, .iload_n 2, 1, 0, 0, 0, []), (139, .iastore, 1, 0, 0, 0, []), (140, .aload_n 0, 1, 0, 0, 0, []), (141, .getfield 19, 3, 7, 1, 0, [280, 0]), (144, .getfield 89, 3, 3, 4, 0, [106, 0]), (147, .iload 6, 2, 0, 0, 0, []), (149, .iload_n 3, 1, 0, 0, 0, []), (150, .iastore, 1, 0, 0, 0, []), (151, .aload_n 0, 1, 0, 0, 0, []), (152, .getfield 19, 3, 7, 1, 0, [280, 0]), (155, .getfield 92, 3, 3, 5, 0, [109, 0]), (158, .iload 6, 2, 0, 0, 0, []), (160, .iload 4, 2, 0, 0, 0, []), (162, .iastore, 1, 0, 0, 0, []), (163, .aload_n 0, 1, 0, 0, 0, []), (164, .getfield 19, 3, 7, 1, 0, [280, 0]), (167, .getfield 95, 3, 3, 6, 0, [111, 0]), (170, .iload 6, 2, 0, 0, 0, []), (172, .iload 5, 2, 0, 0, 0, []), (174, .iastore, 1, 0, 0, 0, []), (175, .aload_n 0, 1, 0, 0, 0, []), (176, .getfield 19, 3, 7, 1, 0, [280, 0]), (179, .dup, 1, 0, 0, 0, []), (180, .getfield 98, 3, 3, 1, 0, [97, 0]), (183, .iconst 1, 1, 0, 0, 0, []), (184, .iload 6, 2, 0, 0, 0, []), (186, .ishl, 1, 0, 0, 0, []), (187, .ior, 1, 0, 0, 0, []), (188, .putfield 98, 3, 3, 1, 0, [97, 0]), (191, .aload_n 0, 1, 0, 0, 0, []), (192, .invokevirtual 68, 3, 74, 0, 0, [305, 307, 0]), (195, .iload 6, 2, 0, 0, 0, []), (197, .ireturn, 1, 0, 0, 0, [])]
-- 48: LetterDays.force
def am_t48 : List am_En := [(0, .aload_n 0, 1, 0, 0, 0, []), (1, .getfield 19, 3, 7, 1, 0, [280, 0]), (4, .iload_n 1, 1, 0, 0, 0, []), (5, .invokevirtual 101, 3, 13, 1, 0, [331, 332, 333]), (8, .ifCond .ne 5, 3, 7, 0, 0, []), (11, .iconst (-1), 1, 0, 0, 0, []), (12, .ireturn, 1, 0, 0, 0, []), (13, .aload_n 0, 1, 0, 0, 0, []), (14, .getfield 19, 3, 7, 1, 0, [280, 0]), (17, .iload_n 1, 1, 0, 0, 0, []), (18, .invokevirtual 102, 3, 14, 1, 0, [335, 336, 337]), (21, .iload_n 2, 1, 0, 0, 0, []), (22, .if_icmp .ne 5, 3, 15, 0, 0, []), (25, .iconst 0, 1, 0, 0, 0, []), (26, .ireturn, 1, 0, 0, 0, []), (27, .aload_n 0, 1, 0, 0, 0, []), (28, .getfield 19, 3, 7, 1, 0, [280, 0]), (31, .dup, 1, 0, 0, 0, []), (32, .getfield 98, 3, 3, 1, 0, [97, 0]), (35, .iconst 1, 1, 0, 0, 0, []), (36, .iload_n 1, 1, 0, 0, 0, []), (37, .ishl, 1, 0, 0, 0, []), (38, .ixor, 1, 0, 0, 0, []), (39, .putfield 98, 3, 3, 1, 0, [97, 0]), (42, .aload_n 0, 1, 0, 0, 0, []), (43, .invokevirtual 68, 3, 74, 0, 0, [305, 307, 0]), (46, .iconst 1, 1, 0, 0, 0, []), (47, .ireturn, 1, 0, 0, 0, [])]
-- 49: LetterDays.unnote
def am_t49 : List am_En := [(0, .aload_n 0, 1, 0, 0, 0, []), (1, .getfield 19, 3, 7, 1, 0, [280, 0]), (4, .getfield 82, 3, 3, 0, 0, [93, 0]), (7, .ifCond .gt 6, 3, 6, 0, 0, []), (10, .bipush (-3), 2, 0, 0, 0, []), (12, .ireturn, 1, 0, 0, 0, []), (13, .aload_n 0, 1, 0, 0, 0, []), (14, .getfield 19, 3, 7, 1, 0, [280, 0]), (17, .dup, 1, 0, 0, 0, []), (18, .getfield 82, 3, 3, 0, 0, [93, 0]), (21, .iconst 1, 1, 0, 0, 0, []), (22, .isub, 1, 0, 0, 0, []), (23, .putfield 82, 3, 3, 0, 0, [93, 0]), (26, .aload_n 0, 1, 0, 0, 0, []), (27, .getfield 19, 3, 7, 1, 0, [280, 0]), (30, .dup, 1, 0, 0, 0, []), (31, .getfield 98, 3, 3, 1, 0, [97, 0]), (34, .iconst 1, 1, 0, 0, 0, []), (35, .aload_n 0, 1, 0, 0, 0, []), (36, .getfield 19, 3, 7, 1, 0, [280, 0]), (39, .getfield 82, 3, 3, 0, 0, [93, 0]), (42, .ishl, 1, 0, 0, 0, []), (43, .iconst (-1), 1, 0, 0, 0, []), (44, .ixor, 1, 0, 0, 0, []), (45, .iand, 1, 0, 0, 0, []), (46, .putfield 98, 3, 3, 1, 0, [97, 0]), (49, .aload_n 0, 1, 0, 0, 0, []), (50, .invokevirtual 68, 3, 74, 0, 0, [305, 307, 0]), (53, .aload_n 0, 1, 0, 0, 0, []), (54, .getfield 19, 3, 7, 1, 0, [280, 0]), (57, .getfield 82, 3, 3, 0, 0, [93, 0]), (60, .ireturn, 1, 0, 0, 0, [])]
-- 50: LetterDays.unletter
def am_t50 : List am_En := [(0, .aload_n 0, 1, 0, 0, 0, []), (1, .getfield 10, 3, 7, 0, 0, [279, 0]), (4, .getfield 57, 3, 2, 0, 0, [68, 0]), (7, .iconst 1, 1, 0, 0, 0, []), (8, .isub, 1, 0, 0, 0, []), (9, .istore_n 1, 1, 0, 0, 0, []), (10, .iload_n 1, 1, 0, 0, 0, []), (11, .ifCond .lt 14, 3, 13, 0, 0, []), (14, .aload_n 0, 1, 0, 0, 0, []), (15, .getfield 19, 3, 7, 1, 0, [280, 0]), (18, .iload_n 1, 1, 0, 0, 0, []), (19, .invokevirtual 105, 3, 16, 1, 0, [347, 348, 349]), (22, .ifCond .eq 6, 3, 15, 0, 0, []), (25, .bipush (-3), 2, 0, 0, 0, []), (27, .ireturn, 1, 0, 0, 0, []), (28, .iconst 0, 1, 0, 0, 0, []), (29, .istore_n 2, 1, 0, 0, 0, []), (30, .iload_n 2, 1, 0, 0, 0, []), (31, .iconst 3, 1, 0, 0, 0, []), (32, .if_icmp .ge 19, 3, 28, 0, 0, []), (35, .aload_n 0, 1, 0, 0, 0, []), (36, .getfield 48, 3, 7, 5, 0, [284, 0]), (39, .iload_n 2, 1, 0, 0, 0, []), (40, .aaload, 1, 0, 0, 0, []), (41, .iload_n 1, 1, 0, 0, 0, []), (42, .invokevirtual 108, 3, 4, 1, 0, [355, 356, 357]), (45, .iinc 2 1, 3, 0, 0, 0, []), (48, .goto (-18), 3, 17, 0, 0, []), (51, .aload_n 0, 1, 0, 0, 0, []), (52, .getfield 10, 3, 7, 0, 0, [279, 0]), (55, .iload_n 1, 1, 0, 0, 0, []), (56, .putfield 57, 3, 2, 0, 0, [68, 0]), (59, .aload_n 0, 1, 0, 0, 0, []), (60, .invokevirtual 68, 3, 74, 0, 0, [305, 307, 0]), (63, .iload_n 1, 1, 0, 0, 0, []), (64, .ireturn, 1, 0, 0, 0, [])]
-- 51: LetterDays.ofLetter
def am_t51 : List am_En := [(0, .aload_n 0, 1, 0, 0, 0, []), (1, .getfield 10, 3, 7, 0, 0, [279, 0]), (4, .iload_n 1, 1, 0, 0, 0, []), (5, .invokevirtual 71, 3, 12, 1, 0, [313, 314, 315]), (8, .ifCond .ne 5, 3, 7, 0, 0, []), (11, .iconst (-1), 1, 0, 0, 0, []), (12, .ireturn, 1, 0, 0, 0, []), (13, .iload_n 2, 1, 0, 0, 0, []), (14, .tableswitch 65 0 3 #[30, 40, 50, 59], 30, 30, 0, 0, [9, 15, 21, 26]), (44, .aload_n 0, 1, 0, 0, 0, []), (45, .getfield 10, 3, 7, 0, 0, [279, 0]), (48, .getfield 61, 3, 2, 1, 0, [72, 0]), (51, .iload_n 1, 1, 0, 0, 0, []), (52, .iaload, 1, 0, 0, 0, []), (53, .ireturn, 1, 0, 0, 0, []), (54, .aload_n 0, 1, 0, 0, 0, []), (55, .getfield 10, 3, 7, 0, 0, [279, 0]), (58, .getfield 65, 3, 2, 2, 0, [75, 0]), (61, .iload_n 1, 1, 0, 0, 0, []), (62, .iaload, 1, 0, 0, 0, []), (63, .ireturn, 1, 0, 0, 0, []), (64, .aload_n 0, 1, 0, 0, 0, []), (65, .getfield 19, 3, 7, 1, 0, [280, 0]), (68, .iload_n 1, 1, 0, 0, 0, []), (69, .invokevirtual 112, 3, 17, 1, 0, [363, 364, 365]), (72, .ireturn, 1, 0, 0, 0, []), (73, .aload_n 0, 1, 0, 0, 0, []), (74, .iload_n 1, 1, 0, 0, 0, []), (75, .invokevirtual 115, 3, 75, 1, 0, [368, 370, 1]), (78, .ireturn, 1, 0, 0, 0, []), (79, .bipush (-2), 2, 0, 0, 0, []), (81, .ireturn, 1, 0, 0, 0, [])]
-- 52: LetterDays.ofNote
def am_t52 : List am_En := [(0, .aload_n 0, 1, 0, 0, 0, []), (1, .getfield 19, 3, 7, 1, 0, [280, 0]), (4, .iload_n 1, 1, 0, 0, 0, []), (5, .invokevirtual 101, 3, 13, 1, 0, [331, 332, 333]), (8, .ifCond .ne 5, 3, 7, 0, 0, []), (11, .iconst (-1), 1, 0, 0, 0, []), (12, .ireturn, 1, 0, 0, 0, []), (13, .iload_n 2, 1, 0, 0, 0, []), (14, .tableswitch 105 0 5 #[38, 48, 58, 68, 78, 88], 38, 48, 0, 0, [9, 15, 21, 27, 33, 39]), (52, .aload_n 0, 1, 0, 0, 0, []), (53, .getfield 19, 3, 7, 1, 0, [280, 0]), (56, .getfield 83, 3, 3, 2, 0, [100, 0]), (59, .iload_n 1, 1, 0, 0, 0, []), (60, .iaload, 1, 0, 0, 0, []), (61, .ireturn, 1, 0, 0, 0, []), (62, .aload_n 0, 1, 0, 0, 0, []), (63, .getfield 19, 3, 7, 1, 0, [280, 0]), (66, .getfield 86, 3, 3, 3, 0, [103, 0]), (69, .iload_n 1, 1, 0, 0, 0, []), (70, .iaload, 1, 0, 0, 0, []), (71, .ireturn, 1, 0, 0, 0, []), (72, .aload_n 0, 1, 0, 0, 0, []), (73, .getfield 19, 3, 7, 1, 0, [280, 0]), (76, .getfield 89, 3, 3, 4, 0, [106, 0]), (79, .iload_n 1, 1, 0, 0, 0, []), (80, .iaload, 1, 0, 0, 0, []), (81, .ireturn, 1, 0, 0, 0, []), (82, .aload_n 0, 1, 0, 0, 0, []), (83, .getfield 19, 3, 7, 1, 0, [280, 0]), (86, .getfield 92, 3, 3, 5, 0, [109, 0]), (89, .iload_n 1, 1, 0, 0, 0, []), (90, .iaload, 1, 0, 0, 0, []), (91, .ireturn, 1, 0, 0, 0, []), (92, .aload_n 0, 1, 0, 0, 0, []), (93, .getfield 19, 3, 7, 1, 0, [280, 0]), (96, .getfield 95, 3, 3, 6, 0, [111, 0]), (99, .iload_n 1, 1, 0, 0, 0, []), (100, .iaload, 1, 0, 0, 0, []), (101, .ireturn, 1, 0, 0, 0, []), (102, .aload_n 0, 1, 0, 0, 0, []), (103, .getfield 19, 3, 7, 1, 0, [280, 0]), (106, .iload_n 1, 1, 0, 0, 0, []), (107, .invokevirtual 102, 3, 14, 1, 0, [335, 336, 337]), (110, .ifCond .eq 7, 3, 46, 0, 0, []), (113, .iconst 1, 1, 0, 0, 0, []), (114, .goto 4, 3, 47, 0, 0, []), (117, .iconst 0, 1, 0, 0, 0, []), (118, .ireturn, 1, 0, 0, 0, []), (119, .bipush (-2), 2, 0, 0, 0, []), (121, .ireturn, 1, 0, 0, 0, [])]
-- 53: LetterDays.agree
def am_t53 : List am_En := [(0, .aload_n 0, 1, 0, 0, 0, []), (1, .getfield 28, 3, 7, 2, 0, [281, 0]), (4, .invokevirtual 118, 3, 24, 0, 0, [388, 389, 390]), (7, .ifCond .eq 7, 3, 6, 0, 0, []), (10, .iconst 1, 1, 0, 0, 0, []), (11, .goto 4, 3, 7, 0, 0, []), (14, .iconst 0, 1, 0, 0, 0, []), (15, .ireturn, 1, 0, 0, 0, [])]
-- 54: LetterDays.day
def am_t54 : List am_En := [(0, .aload_n 0, 1, 0, 0, 0, []), (1, .getfield 10, 3, 7, 0, 0, [279, 0]), (4, .iload_n 1, 1, 0, 0, 0, []), (5, .invokevirtual 71, 3, 12, 1, 0, [313, 314, 315]), (8, .ifCond .ne 5, 3, 7, 0, 0, []), (11, .iconst (-1), 1, 0, 0, 0, []), (12, .ireturn, 1, 0, 0, 0, []), (13, .iload_n 2, 1, 0, 0, 0, []), (14, .ifCond .eq 11, 3, 14, 0, 0, []), (17, .iload_n 2, 1, 0, 0, 0, []), (18, .iconst 1, 1, 0, 0, 0, []), (19, .if_icmp .eq 6, 3, 14, 0, 0, []), (22, .bipush (-2), 2, 0, 0, 0, []), (24, .ireturn, 1, 0, 0, 0, []), (25, .aload_n 0, 1, 0, 0, 0, []), (26, .getfield 28, 3, 7, 2, 0, [281, 0]), (29, .invokevirtual 118, 3, 24, 0, 0, [388, 389, 390]), (32, .ifCond .ne 6, 3, 20, 0, 0, []), (35, .bipush (-3), 2, 0, 0, 0, []), (37, .ireturn, 1, 0, 0, 0, []), (38, .iload_n 2, 1, 0, 0, 0, []), (39, .ifCond .ne 15, 3, 28, 0, 0, []), (42, .aload_n 0, 1, 0, 0, 0, []), (43, .getfield 28, 3, 7, 2, 0, [281, 0]), (46, .getfield 122, 3, 5, 1, 0, [170, 0]), (49, .iload_n 1, 1, 0, 0, 0, []), (50, .iaload, 1, 0, 0, 0, []), (51, .goto 12, 3, 33, 0, 0, []), (54, .aload_n 0, 1, 0, 0, 0, []), (55, .getfield 28, 3, 7, 2, 0, [281, 0]), (58, .getfield 125, 3, 5, 2, 0, [172, 0]), (61, .iload_n 1, 1, 0, 0, 0, []), (62, .iaload, 1, 0, 0, 0, []), (63, .ireturn, 1, 0, 0, 0, [])]
-- 55: LetterDays.can
def am_t55 : List am_En := [(0, .aload_n 0, 1, 0, 0, 0, []), (1, .getfield 10, 3, 7, 0, 0, [279, 0]), (4, .iload_n 1, 1, 0, 0, 0, []), (5, .invokevirtual 71, 3, 12, 1, 0, [313, 314, 315]), (8, .ifCond .ne 5, 3, 7, 0, 0, []), (11, .iconst (-1), 1, 0, 0, 0, []), (12, .ireturn, 1, 0, 0, 0, []), (13, .iload_n 2, 1, 0, 0, 0, []), (14, .ifCond .lt 10, 3, 12, 0, 0, []), (17, .iload_n 2, 1, 0, 0, 0, []), (18, .sipush 200, 3, 0, 0, 0, []), (21, .if_icmp .lt 6, 3, 14, 0, 0, []), (24, .bipush (-2), 2, 0, 0, 0, []), (26, .ireturn, 1, 0, 0, 0, []), (27, .aload_n 0, 1, 0, 0, 0, []), (28, .getfield 28, 3, 7, 2, 0, [281, 0]), (31, .invokevirtual 118, 3, 24, 0, 0, [388, 389, 390]), (34, .ifCond .ne 6, 3, 20, 0, 0, []), (37, .bipush (-3), 2, 0, 0, 0, []), (39, .ireturn, 1, 0, 0, 0, []), (40, .aload_n 0, 1, 0, 0, 0, []), (41, .getfield 28, 3, 7, 2, 0, [281, 0]), (44, .iload_n 1, 1, 0, 0, 0, []), (45, .iload_n 2, 1, 0, 0, 0, []), (46, .invokevirtual 128, 3, 25, 2, 0, [442, 443, 444]), (49, .ifCond .eq 7, 3, 28, 0, 0, []), (52, .iconst 1, 1, 0, 0, 0, []), (53, .goto 4, 3, 29, 0, 0, []), (56, .iconst 0, 1, 0, 0, 0, []), (57, .ireturn, 1, 0, 0, 0, [])]
-- 56: LetterDays.left
def am_t56 : List am_En := [(0, .aload_n 0, 1, 0, 0, 0, []), (1, .getfield 10, 3, 7, 0, 0, [279, 0]), (4, .iload_n 1, 1, 0, 0, 0, []), (5, .invokevirtual 71, 3, 12, 1, 0, [313, 314, 315]), (8, .ifCond .ne 5, 3, 7, 0, 0, []), (11, .iconst (-1), 1, 0, 0, 0, []), (12, .ireturn, 1, 0, 0, 0, []), (13, .aload_n 0, 1, 0, 0, 0, []), (14, .getfield 28, 3, 7, 2, 0, [281, 0]), (17, .invokevirtual 118, 3, 24, 0, 0, [388, 389, 390]), (20, .ifCond .ne 6, 3, 13, 0, 0, []), (23, .bipush (-3), 2, 0, 0, 0, []), (25, .ireturn, 1, 0, 0, 0, []), (26, .aload_n 0, 1, 0, 0, 0, []), (27, .getfield 28, 3, 7, 2, 0, [281, 0]), (30, .iload_n 1, 1, 0, 0, 0, []), (31, .invokevirtual 131, 3, 26, 1, 0, [474, 475, 476]), (34, .ireturn, 1, 0, 0, 0, [])]
-- 57: LetterDays.gap
def am_t57 : List am_En := [(0, .aload_n 0, 1, 0, 0, 0, []), (1, .getfield 10, 3, 7, 0, 0, [279, 0]), (4, .iload_n 1, 1, 0, 0, 0, []), (5, .invokevirtual 71, 3, 12, 1, 0, [313, 314, 315]), (8, .ifCond .eq 19, 3, 13, 0, 0, []), (11, .aload_n 0, 1, 0, 0, 0, []), (12, .getfield 10, 3, 7, 0, 0, [279, 0]), (15, .iload_n 2, 1, 0, 0, 0, []), (16, .invokevirtual 71, 3, 12, 1, 0, [313, 314, 315]), (19, .ifCond .eq 8, 3, 13, 0, 0, []), (22, .iload_n 1, 1, 0, 0, 0, []), (23, .iload_n 2, 1, 0, 0, 0, []), (24, .if_icmp .ne 5, 3, 15, 0, 0, []), (27, .iconst (-1), 1, 0, 0, 0, []), (28, .ireturn, 1, 0, 0, 0, []), (29, .aload_n 0, 1, 0, 0, 0, []), (30, .getfield 28, 3, 7, 2, 0, [281, 0]), (33, .invokevirtual 118, 3, 24, 0, 0, [388, 389, 390]), (36, .ifCond .ne 6, 3, 21, 0, 0, []), (39, .bipush (-3), 2, 0, 0, 0, []), (41, .ireturn, 1, 0, 0, 0, []), (42, .aload_n 0, 1, 0, 0, 0, []), (43, .getfield 28, 3, 7, 2, 0, [281, 0]), (46, .iload_n 1, 1, 0, 0, 0, []), (47, .iload_n 2, 1, 0, 0, 0, []), (48, .invokevirtual 134, 3, 27, 2, 0, [482, 483, 484]), (51, .sipush 1000, 3, 0, 0, 0, []), (54, .iadd, 1, 0, 0, 0, []), (55, .ireturn, 1, 0, 0, 0, [])]
-- 58: LetterDays.ahead
def am_t58 : List am_En := [(0, .aload_n 0, 1, 0, 0, 0, []), (1, .getfield 10, 3, 7, 0, 0, [279, 0]), (4, .iload_n 1, 1, 0, 0, 0, []), (5, .invokevirtual 71, 3, 12, 1, 0, [313, 314, 315]), (8, .ifCond .ne 5, 3, 7, 0, 0, []), (11, .iconst (-1), 1, 0, 0, 0, []), (12, .ireturn, 1, 0, 0, 0, []), (13, .iload_n 2, 1, 0, 0, 0, []), (14, .ifCond .eq 11, 3, 14, 0, 0, []), (17, .iload_n 2, 1, 0, 0, 0, []), (18, .iconst 1, 1, 0, 0, 0, []), (19, .if_icmp .eq 6, 3, 14, 0, 0, []), (22, .bipush (-2), 2, 0, 0, 0, []), (24, .ireturn, 1, 0, 0, 0, []), (25, .aload_n 0, 1, 0, 0, 0, []), (26, .getfield 28, 3, 7, 2, 0, [281, 0]), (29, .invokevirtual 118, 3, 24, 0, 0, [388, 389, 390]), (32, .ifCond .ne 6, 3, 20, 0, 0, []), (35, .bipush (-3), 2, 0, 0, 0, []), (37, .ireturn, 1, 0, 0, 0, []), (38, .iload_n 2, 1, 0, 0, 0, []), (39, .ifCond .ne 14, 3, 27, 0, 0, []), (42, .aload_n 0, 1, 0, 0, 0, []), (43, .getfield 28, 3, 7, 2, 0, [281, 0]), (46, .iload_n 1, 1, 0, 0, 0, []), (47, .invokevirtual 138, 3, 29, 1, 0, [490, 491, 492]), (50, .goto 11, 3, 31, 0, 0, []), (53, .aload_n 0, 1, 0, 0, 0, []), (54, .getfield 28, 3, 7, 2, 0, [281, 0]), (57, .iload_n 1, 1, 0, 0, 0, []), (58, .invokevirtual 141, 3, 30, 1, 0, [494, 495, 496]), (61, .ireturn, 1, 0, 0, 0, [])]
-- 59: LetterDays.orders
def am_t59 : List am_En := [(0, .aload_n 0, 1, 0, 0, 0, []), (1, .getfield 28, 3, 7, 2, 0, [281, 0]), (4, .invokevirtual 118, 3, 24, 0, 0, [388, 389, 390]), (7, .ifCond .ne 6, 3, 6, 0, 0, []), (10, .bipush (-3), 2, 0, 0, 0, []), (12, .ireturn, 1, 0, 0, 0, []), (13, .aload_n 0, 1, 0, 0, 0, []), (14, .getfield 42, 3, 7, 4, 0, [283, 0]), (17, .aload_n 0, 1, 0, 0, 0, []), (18, .getfield 28, 3, 7, 2, 0, [281, 0]), (21, .aload_n 0, 1, 0, 0, 0, []), (22, .getfield 10, 3, 7, 0, 0, [279, 0]), (25, .getfield 57, 3, 2, 0, 0, [68, 0]), (28, .invokevirtual 144, 3, 19, 2, 0, [502, 503, 504]), (31, .aload_n 0, 1, 0, 0, 0, []), (32, .getfield 42, 3, 7, 4, 0, [283, 0]), (35, .invokevirtual 148, 3, 20, 0, 0, [507, 508, 509]), (38, .ireturn, 1, 0, 0, 0, [])]
-- 60: LetterDays.order
def am_t60 : List am_En := [(0, .iload_n 1, 1, 0, 0, 0, []), (1, .ifCond .lt 9, 3, 5, 0, 0, []), (4, .iload_n 1, 1, 0, 0, 0, []), (5, .bipush 8, 2, 0, 0, 0, []), (7, .if_icmp .lt 6, 3, 7, 0, 0, []), (10, .bipush (-2), 2, 0, 0, 0, []), (12, .ireturn, 1, 0, 0, 0, []), (13, .aload_n 0, 1, 0, 0, 0, []), (14, .getfield 28, 3, 7, 2, 0, [281, 0]), (17, .invokevirtual 118, 3, 24, 0, 0, [388, 389, 390]), (20, .ifCond .ne 6, 3, 13, 0, 0, []), (23, .bipush (-3), 2, 0, 0, 0, []), (25, .ireturn, 1, 0, 0, 0, []), (26, .iload_n 1, 1, 0, 0, 0, []), (27, .aload_n 0, 1, 0, 0, 0, []), (28, .getfield 10, 3, 7, 0, 0, [279, 0]), (31, .getfield 57, 3, 2, 0, 0, [68, 0]), (34, .if_icmp .lt 6, 3, 20, 0, 0, []), (37, .bipush (-9), 2, 0, 0, 0, []), (39, .ireturn, 1, 0, 0, 0, []), (40, .aload_n 0, 1, 0, 0, 0, []), (41, .getfield 42, 3, 7, 4, 0, [283, 0]), (44, .aload_n 0, 1, 0, 0, 0, []), (45, .getfield 28, 3, 7, 2, 0, [281, 0]), (48, .aload_n 0, 1, 0, 0, 0, []), (49, .getfield 10, 3, 7, 0, 0, [279, 0]), (52, .getfield 57, 3, 2, 0, 0, [68, 0]), (55, .invokevirtual 144, 3, 19, 2, 0, [502, 503, 504]), (58, .aload_n 0, 1, 0, 0, 0, []), (59, .getfield 42, 3, 7, 4, 0, [283, 0]), (62, .iload_n 1, 1, 0, 0, 0, []), (63, .invokevirtual 152, 3, 21, 1, 0, [519, 520, 521]), (66, .ireturn, 1, 0, 0, 0, [])]
-- 61: LetterDays.knot
def am_t61 : List am_En := [(0, .iload_n 1, 1, 0, 0, 0, []), (1, .ifCond .eq 11, 3, 7, 0, 0, []), (4, .iload_n 1, 1, 0, 0, 0, []), (5, .iconst 1, 1, 0, 0, 0, []), (6, .if_icmp .eq 6, 3, 7, 0, 0, []), (9, .bipush (-2), 2, 0, 0, 0, []), (11, .ireturn, 1, 0, 0, 0, []), (12, .aload_n 0, 1, 0, 0, 0, []), (13, .getfield 35, 3, 7, 3, 0, [282, 0]), (16, .invokevirtual 155, 3, 6, 0, 0, [531, 532, 533]), (19, .istore_n 2, 1, 0, 0, 0, []), (20, .iload_n 1, 1, 0, 0, 0, []), (21, .ifCond .ne 7, 3, 15, 0, 0, []), (24, .iload_n 2, 1, 0, 0, 0, []), (25, .goto 11, 3, 19, 0, 0, []), (28, .aload_n 0, 1, 0, 0, 0, []), (29, .getfield 19, 3, 7, 1, 0, [280, 0]), (32, .iload_n 2, 1, 0, 0, 0, []), (33, .invokevirtual 158, 3, 18, 1, 0, [563, 543, 544]), (36, .ireturn, 1, 0, 0, 0, [])]
-- 62: LetterDays.core
def am_t62 : List am_En := [(0, .aload_n 0, 1, 0, 0, 0, []), (1, .getfield 28, 3, 7, 2, 0, [281, 0]), (4, .invokevirtual 118, 3, 24, 0, 0, [388, 389, 390]), (7, .ifCond .eq 8, 3, 6, 0, 0, []), (10, .bipush (-3), 2, 0, 0, 0, []), (12, .goto 10, 3, 9, 0, 0, []), (15, .aload_n 0, 1, 0, 0, 0, []), (16, .getfield 35, 3, 7, 3, 0, [282, 0]), (19, .invokevirtual 161, 3, 7, 0, 0, [568, 569, 570]), (22, .ireturn, 1, 0, 0, 0, [])]
-- 63: LetterDays.worst
def am_t63 : List am_En := [(0, .aload_n 0, 1, 0, 0, 0, []), (1, .getfield 10, 3, 7, 0, 0, [279, 0]), (4, .iload_n 1, 1, 0, 0, 0, []), (5, .invokevirtual 71, 3, 12, 1, 0, [313, 314, 315]), (8, .ifCond .ne 5, 3, 7, 0, 0, []), (11, .iconst (-1), 1, 0, 0, 0, []), (12, .ireturn, 1, 0, 0, 0, []), (13, .aload_n 0, 1, 0, 0, 0, []), (14, .getfield 28, 3, 7, 2, 0, [281, 0]), (17, .invokevirtual 118, 3, 24, 0, 0, [388, 389, 390]), (20, .ifCond .ne 6, 3, 13, 0, 0, []), (23, .bipush (-3), 2, 0, 0, 0, []), (25, .ireturn, 1, 0, 0, 0, []), (26, .aload_n 0, 1, 0, 0, 0, []), (27, .getfield 28, 3, 7, 2, 0, [281, 0]), (30, .iload_n 1, 1, 0, 0, 0, []), (31, .invokevirtual 164, 3, 28, 1, 0, [576, 577, 578]), (34, .ireturn, 1, 0, 0, 0, [])]
-- 64: LetterDays.best
def am_t64 : List am_En := [(0, .aload_n 0, 1, 0, 0, 0, []), (1, .getfield 28, 3, 7, 2, 0, [281, 0]), (4, .invokevirtual 118, 3, 24, 0, 0, [388, 389, 390]), (7, .ifCond .ne 6, 3, 6, 0, 0, []), (10, .bipush (-3), 2, 0, 0, 0, []), (12, .ireturn, 1, 0, 0, 0, []), (13, .bipush (-9), 2, 0, 0, 0, []), (15, .istore_n 1, 1, 0, 0, 0, []), (16, .iconst 0, 1, 0, 0, 0, []), (17, .istore_n 2, 1, 0, 0, 0, []), (18, .iconst 0, 1, 0, 0, 0, []), (19, .istore_n 3, 1, 0, 0, 0, []), (20, .iload_n 3, 1, 0, 0, 0, []), (21, .aload_n 0, 1, 0, 0, 0, []), (22, .getfield 10, 3, 7, 0, 0, [279, 0]), (25, .getfield 57, 3, 2, 0, 0, [68, 0]), (28, .if_icmp .ge 36, 3, 34, 0, 0, []), (31, .aload_n 0, 1, 0, 0, 0, []), (32, .getfield 28, 3, 7, 2, 0, [281, 0]), (35, .iload_n 3, 1, 0, 0, 0, []), (36, .invokevirtual 164, 3, 28, 1, 0, [576, 577, 578]), (39, .istore 4, 2, 0, 0, 0, []), (41, .iload_n 1, 1, 0, 0, 0, []), (42, .bipush (-9), 2, 0, 0, 0, []), (44, .if_icmp .eq 9, 3, 28, 0, 0, []), (47, .iload 4, 2, 0, 0, 0, []), (49, .iload_n 2, 1, 0, 0, 0, []), (50, .if_icmp .ge 8, 3, 32, 0, 0, []), (53, .iload_n 3, 1, 0, 0, 0, []), (54, .istore_n 1, 1, 0, 0, 0, []), (55, .iload 4, 2, 0, 0, 0, []), (57, .istore_n 2, 1, 0, 0, 0, []), (58, .iinc 3 1, 3, 0, 0, 0, []), (61, .goto (-41), 3, 12, 0, 0, []), (64, .iload_n 1, 1, 0, 0, 0, []), (65, .ireturn, 1, 0, 0, 0, [])]
-- 65: LetterDays.tie
def am_t65 : List am_En := [(0, .aload_n 0, 1, 0, 0, 0, []), (1, .getfield 10, 3, 7, 0, 0, [279, 0]), (4, .iload_n 1, 1, 0, 0, 0, []), (5, .invokevirtual 71, 3, 12, 1, 0, [313, 314, 315]), (8, .ifCond .eq 10, 3, 8, 0, 0, []), (11, .iload_n 2, 1, 0, 0, 0, []), (12, .invokestatic 167, 3, 71, 1, 0, [588, 589]), (15, .ifCond .ne 5, 3, 10, 0, 0, []), (18, .iconst (-1), 1, 0, 0, 0, []), (19, .ireturn, 1, 0, 0, 0, []), (20, .aload_n 0, 1, 0, 0, 0, []), (21, .getfield 48, 3, 7, 5, 0, [284, 0]), (24, .iload_n 2, 1, 0, 0, 0, []), (25, .aaload, 1, 0, 0, 0, []), (26, .astore_n 3, 1, 0, 0, 0, []), (27, .aload_n 3, 1, 0, 0, 0, []), (28, .iload_n 1, 1, 0, 0, 0, []), (29, .invokevirtual 170, 3, 1, 1, 0, [372, 373, 374]), (32, .ifCond .ne 13, 3, 23, 0, 0, []), (35, .aload_n 0, 1, 0, 0, 0, []), (36, .getfield 28, 3, 7, 2, 0, [281, 0]), (39, .invokevirtual 118, 3, 24, 0, 0, [388, 389, 390]), (42, .ifCond .ne 6, 3, 25, 0, 0, []), (45, .bipush (-3), 2, 0, 0, 0, []), (47, .ireturn, 1, 0, 0, 0, []), (48, .aload_n 3, 1, 0, 0, 0, []), (49, .iload_n 1, 1, 0, 0, 0, []), (50, .aload_n 0, 1, 0, 0, 0, []), (51, .getfield 28, 3, 7, 2, 0, [281, 0]), (54, .getfield 122, 3, 5, 1, 0, [170, 0]), (57, .invokevirtual 173, 3, 2, 2, 0, [591, 592, 593]), (60, .istore 4, 2, 0, 0, 0, []), (62, .aload_n 3, 1, 0, 0, 0, []), (63, .iload 4, 2, 0, 0, 0, []), (65, .iload_n 1, 1, 0, 0, 0, []), (66, .invokevirtual 177, 3, 3, 2, 0, [595, 596, 597]), (69, .iload 4, 2, 0, 0, 0, []), (71, .ireturn, 1, 0, 0, 0, [])]
-- 66: LetterDays.untie
def am_t66 : List am_En := [(0, .aload_n 0, 1, 0, 0, 0, []), (1, .getfield 10, 3, 7, 0, 0, [279, 0]), (4, .iload_n 1, 1, 0, 0, 0, []), (5, .invokevirtual 71, 3, 12, 1, 0, [313, 314, 315]), (8, .ifCond .eq 10, 3, 8, 0, 0, []), (11, .iload_n 2, 1, 0, 0, 0, []), (12, .invokestatic 167, 3, 71, 1, 0, [588, 589]), (15, .ifCond .ne 5, 3, 10, 0, 0, []), (18, .iconst (-1), 1, 0, 0, 0, []), (19, .ireturn, 1, 0, 0, 0, []), (20, .aload_n 0, 1, 0, 0, 0, []), (21, .getfield 48, 3, 7, 5, 0, [284, 0]), (24, .iload_n 2, 1, 0, 0, 0, []), (25, .aaload, 1, 0, 0, 0, []), (26, .astore_n 3, 1, 0, 0, 0, []), (27, .aload_n 3, 1, 0, 0, 0, []), (28, .iload_n 1, 1, 0, 0, 0, []), (29, .invokevirtual 170, 3, 1, 1, 0, [372, 373, 374]), (32, .ifCond .ne 6, 3, 21, 0, 0, []), (35, .bipush (-3), 2, 0, 0, 0, []), (37, .ireturn, 1, 0, 0, 0, []), (38, .aload_n 3, 1, 0, 0, 0, []), (39, .iload_n 1, 1, 0, 0, 0, []), (40, .invokevirtual 108, 3, 4, 1, 0, [355, 356, 357]), (43, .aload_n 3, 1, 0, 0, 0, []), (44, .getfield 181, 3, 0, 0, 0, [271, 0]), (47, .ireturn, 1, 0, 0, 0, [])]
-- 67: LetterDays.spread
def am_t67 : List am_En := [(0, .iload_n 1, 1, 0, 0, 0, []), (1, .invokestatic 167, 3, 71, 1, 0, [588, 589]), (4, .ifCond .ne 5, 3, 5, 0, 0, []), (7, .iconst (-1), 1, 0, 0, 0, []), (8, .ireturn, 1, 0, 0, 0, []), (9, .aload_n 0, 1, 0, 0, 0, []), (10, .getfield 28, 3, 7, 2, 0, [281, 0]), (13, .invokevirtual 118, 3, 24, 0, 0, [388, 389, 390]), (16, .ifCond .ne 6, 3, 11, 0, 0, []), (19, .bipush (-3), 2, 0, 0, 0, []), (21, .ireturn, 1, 0, 0, 0, []), (22, .aload_n 0, 1, 0, 0, 0, []), (23, .getfield 48, 3, 7, 5, 0, [284, 0]), (26, .iload_n 1, 1, 0, 0, 0, []), (27, .aaload, 1, 0, 0, 0, []), (28, .astore_n 2, 1, 0, 0, 0, []), (29, .aload_n 0, 1, 0, 0, 0, []), (30, .getfield 48, 3, 7, 5, 0, [284, 0]), (33, .iload_n 1, 1, 0, 0, 0, []), (34, .iconst 1, 1, 0, 0, 0, []), (35, .iadd, 1, 0, 0, 0, []), (36, .iconst 3, 1, 0, 0, 0, []), (37, .if_icmp .ge 9, 3, 27, 0, 0, []), (40, .iload_n 1, 1, 0, 0, 0, []), (41, .iconst 1, 1, 0, 0, 0, []), (42, .iadd, 1, 0, 0, 0, []), (43, .goto 4, 3, 28, 0, 0, []), (46, .iconst 0, 1, 0, 0, 0, []), (47, .aaload, 1, 0, 0, 0, []), (48, .astore_n 3, 1, 0, 0, 0, []), (49, .aload_n 0, 1, 0, 0, 0, []), (50, .aload_n 2, 1, 0, 0, 0, []), (51, .invokevirtual 184, 3, 76, 1, 0, [607, 609, 15]), (54, .istore 4, 2, 0, 0, 0, []), (56, .iconst 0, 1, 0, 0, 0, []), (57, .istore 5, 2, 0, 0, 0, []), (59, .aload_n 2, 1, 0, 0, 0, []), (60, .getfield 181, 3, 0, 0, 0, [271, 0]), (63, .istore 6, 2, 0, 0, 0, []), (65, .iload 6, 2, 0, 0, 0, []), (67, .ifCond .le 46, 3, 62, 0, 0, []), (70, .aload_n 2, 1, 0, 0, 0, []), (71, .getfield 188, 3, 0, 1, 0, [273, 0]), (74, .iload 5, 2, 0, 0, 0, []), (76, .iaload, 1, 0, 0, 0, []), (77, .istore 7, 2, 0, 0, 0, []), (79, .iload 4, 2, 0, 0, 0, []), (81, .iconst 1, 1, 0, 0, 0, []), (82, .iload 7, 2, 0, 0, 0, []), (84, .ishl, 1, 0, 0, 0, []), (85, .iand, 1, 0, 0, 0, []), (86, .ifCond .ne 9, 3, 54, 0, 0, []), (89, .iinc 5 1, 3, 0, 0, 0, []), (92, .goto 15, 3, 60, 0, 0, []), (95, .aload_n 2, 1, 0, 0, 0, []), (96, .iload 7, 2, 0, 0, 0, []), (98, .invokevirtual 108, 3, 4, 1, 0, [355, 356, 357]), (101, .aload_n 3, 1, 0, 0, 0, []), (102, .iload 7, 2, 0, 0, 0, []), (104, .invokevirtual 191, 3, 5, 1, 0, [612, 613, 614]), (107, .iinc 6 (-1), 3, 0, 0, 0, []), (110, .goto (-45), 3, 39, 0, 0, []), (113, .iload 4, 2, 0, 0, 0, []), (115, .invokestatic 194, 3, 130, 1, 0, [619, 547]), (118, .ireturn, 1, 0, 0, 0, [])]
-- 68: LetterDays.lies
def am_t68 : List am_En := [(0, .iload_n 1, 1, 0, 0, 0, []), (1, .invokestatic 167, 3, 71, 1, 0, [588, 589]), (4, .ifCond .ne 5, 3, 5, 0, 0, []), (7, .iconst (-1), 1, 0, 0, 0, []), (8, .ireturn, 1, 0, 0, 0, []), (9, .iload_n 2, 1, 0, 0, 0, []), (10, .ifCond .lt 9, 3, 10, 0, 0, []), (13, .iload_n 2, 1, 0, 0, 0, []), (14, .bipush 8, 2, 0, 0, 0, []), (16, .if_icmp .lt 6, 3, 12, 0, 0, []), (19, .bipush (-2), 2, 0, 0, 0, []), (21, .ireturn, 1, 0, 0, 0, []), (22, .iload_n 2, 1, 0, 0, 0, []), (23, .aload_n 0, 1, 0, 0, 0, []), (24, .getfield 48, 3, 7, 5, 0, [284, 0]), (27, .iload_n 1, 1, 0, 0, 0, []), (28, .aaload, 1, 0, 0, 0, []), (29, .getfield 181, 3, 0, 0, 0, [271, 0]), (32, .if_icmp .ge 17, 3, 27, 0, 0, []), (35, .aload_n 0, 1, 0, 0, 0, []), (36, .getfield 48, 3, 7, 5, 0, [284, 0]), (39, .iload_n 1, 1, 0, 0, 0, []), (40, .aaload, 1, 0, 0, 0, []), (41, .getfield 188, 3, 0, 1, 0, [273, 0]), (44, .iload_n 2, 1, 0, 0, 0, []), (45, .iaload, 1, 0, 0, 0, []), (46, .goto 5, 3, 28, 0, 0, []), (49, .bipush (-9), 2, 0, 0, 0, []), (51, .ireturn, 1, 0, 0, 0, [])]
-- 69: LetterDays.many
def am_t69 : List am_En := [(0, .iload_n 1, 1, 0, 0, 0, []), (1, .tableswitch 97 0 6 #[43, 51, 59, 70, 70, 70, 82], 43, 30, 0, 0, [2, 6, 10, 15, 15, 15, 23]), (44, .aload_n 0, 1, 0, 0, 0, []), (45, .getfield 10, 3, 7, 0, 0, [279, 0]), (48, .getfield 57, 3, 2, 0, 0, [68, 0]), (51, .ireturn, 1, 0, 0, 0, []), (52, .aload_n 0, 1, 0, 0, 0, []), (53, .getfield 19, 3, 7, 1, 0, [280, 0]), (56, .getfield 82, 3, 3, 0, 0, [93, 0]), (59, .ireturn, 1, 0, 0, 0, []), (60, .aload_n 0, 1, 0, 0, 0, []), (61, .getfield 19, 3, 7, 1, 0, [280, 0]), (64, .getfield 98, 3, 3, 1, 0, [97, 0]), (67, .invokestatic 194, 3, 130, 1, 0, [619, 547]), (70, .ireturn, 1, 0, 0, 0, []), (71, .aload_n 0, 1, 0, 0, 0, []), (72, .getfield 48, 3, 7, 5, 0, [284, 0]), (75, .iload_n 1, 1, 0, 0, 0, []), (76, .iconst 3, 1, 0, 0, 0, []), (77, .isub, 1, 0, 0, 0, []), (78, .aaload, 1, 0, 0, 0, []), (79, .getfield 181, 3, 0, 0, 0, [271, 0]), (82, .ireturn, 1, 0, 0, 0, []), (83, .aload_n 0, 1, 0, 0, 0, []), (84, .getfield 19, 3, 7, 1, 0, [280, 0]), (87, .aload_n 0, 1, 0, 0, 0, []), (88, .getfield 19, 3, 7, 1, 0, [280, 0]), (91, .getfield 98, 3, 3, 1, 0, [97, 0]), (94, .invokevirtual 158, 3, 18, 1, 0, [563, 543, 544]), (97, .ireturn, 1, 0, 0, 0, []), (98, .bipush (-2), 2, 0, 0, 0, []), (100, .ireturn, 1, 0, 0, 0, [])]
-- 70: LetterDays.isStamp
def am_t70 : List am_En := [(0, .iload_n 0, 1, 0, 0, 0, []), (1, .ifCond .lt 19, 3, 10, 0, 0, []), (4, .iload_n 0, 1, 0, 0, 0, []), (5, .iload_n 1, 1, 0, 0, 0, []), (6, .if_icmp .gt 14, 3, 10, 0, 0, []), (9, .iload_n 1, 1, 0, 0, 0, []), (10, .sipush 200, 3, 0, 0, 0, []), (13, .if_icmp .ge 7, 3, 10, 0, 0, []), (16, .iconst 1, 1, 0, 0, 0, []), (17, .goto 4, 3, 11, 0, 0, []), (20, .iconst 0, 1, 0, 0, 0, []), (21, .ireturn, 1, 0, 0, 0, [])]
-- 71: LetterDays.isBundle
def am_t71 : List am_En := [(0, .iload_n 0, 1, 0, 0, 0, []), (1, .ifCond .lt 12, 3, 7, 0, 0, []), (4, .iload_n 0, 1, 0, 0, 0, []), (5, .iconst 3, 1, 0, 0, 0, []), (6, .if_icmp .ge 7, 3, 7, 0, 0, []), (9, .iconst 1, 1, 0, 0, 0, []), (10, .goto 4, 3, 8, 0, 0, []), (13, .iconst 0, 1, 0, 0, 0, []), (14, .ireturn, 1, 0, 0, 0, [])]
-- 72: LetterDays.isOfTwo
def am_t72 : List am_En := [(0, .iload_n 0, 1, 0, 0, 0, []), (1, .ifCond .eq 8, 3, 5, 0, 0, []), (4, .iload_n 0, 1, 0, 0, 0, []), (5, .iconst 1, 1, 0, 0, 0, []), (6, .if_icmp .ne 7, 3, 7, 0, 0, []), (9, .iconst 1, 1, 0, 0, 0, []), (10, .goto 4, 3, 8, 0, 0, []), (13, .iconst 0, 1, 0, 0, 0, []), (14, .ireturn, 1, 0, 0, 0, [])]
-- 73: LetterDays.greatestNumber
def am_t73 : List am_En := [(0, .iload_n 0, 1, 0, 0, 0, []), (1, .invokestatic 75, 3, 72, 1, 0, [321, 322]), (4, .ifCond .eq 6, 3, 5, 0, 0, []), (7, .bipush 99, 2, 0, 0, 0, []), (9, .ireturn, 1, 0, 0, 0, []), (10, .iload_n 0, 1, 0, 0, 0, []), (11, .iconst 4, 1, 0, 0, 0, []), (12, .if_icmp .ne 8, 3, 10, 0, 0, []), (15, .bipush 6, 2, 0, 0, 0, []), (17, .goto 6, 3, 11, 0, 0, []), (20, .sipush 199, 3, 0, 0, 0, []), (23, .ireturn, 1, 0, 0, 0, [])]
-- 74: LetterDays.forgetAnswers
def am_t74 : List am_En := [(0, .aload_n 0, 1, 0, 0, 0, []), (1, .getfield 28, 3, 7, 2, 0, [281, 0]), (4, .iconst 0, 1, 0, 0, 0, []), (5, .putfield 199, 3, 5, 0, 0, [168, 1]), (8, .aload_n 0, 1, 0, 0, 0, []), (9, .getfield 35, 3, 7, 3, 0, [282, 0]), (12, .iconst 0, 1, 0, 0, 0, []), (13, .putfield 203, 3, 1, 0, 0, [219, 1]), (16, .return_, 1, 0, 0, 0, [])]
-- 75: LetterDays.bundlesWith
def am_t75 : List am_En := [(0, .iconst 0, 1, 0, 0, 0, []), (1, .istore_n 2, 1, 0, 0, 0, []), (2, .iconst 0, 1, 0, 0, 0, []), (3, .istore_n 3, 1, 0, 0, 0, []), (4, .iload_n 3, 1, 0, 0, 0, []), (5, .iconst 3, 1, 0, 0, 0, []), (6, .if_icmp .ge 28, 3, 22, 0, 0, []), (9, .aload_n 0, 1, 0, 0, 0, []), (10, .getfield 48, 3, 7, 5, 0, [284, 0]), (13, .iload_n 3, 1, 0, 0, 0, []), (14, .aaload, 1, 0, 0, 0, []), (15, .iload_n 1, 1, 0, 0, 0, []), (16, .invokevirtual 170, 3, 1, 1, 0, [372, 373, 374]), (19, .ifCond .eq 9, 3, 20, 0, 0, []), (22, .iload_n 2, 1, 0, 0, 0, []), (23, .iconst 1, 1, 0, 0, 0, []), (24, .iload_n 3, 1, 0, 0, 0, []), (25, .ishl, 1, 0, 0, 0, []), (26, .ior, 1, 0, 0, 0, []), (27, .istore_n 2, 1, 0, 0, 0, []), (28, .iinc 3 1, 3, 0, 0, 0, []), (31, .goto (-27), 3, 4, 0, 0, []), (34, .iload_n 2, 1, 0, 0, 0, []), (35, .ireturn, 1, 0, 0, 0, [])]
-- 76: LetterDays.leavingOf
def am_t76 : List am_En := [(0, .aload_n 1, 1, 0, 0, 0, []), (1, .invokevirtual 204, 3, 0, 0, 0, [611, 377, 378]), (4, .istore_n 2, 1, 0, 0, 0, []), (5, .iconst 0, 1, 0, 0, 0, []), (6, .istore_n 3, 1, 0, 0, 0, []), (7, .iconst 0, 1, 0, 0, 0, []), (8, .istore 4, 2, 0, 0, 0, []), (10, .iload 4, 2, 0, 0, 0, []), (12, .aload_n 1, 1, 0, 0, 0, []), (13, .getfield 181, 3, 0, 0, 0, [271, 0]), (16, .if_icmp .ge 39, 3, 31, 0, 0, []), (19, .aload_n 1, 1, 0, 0, 0, []), (20, .getfield 188, 3, 0, 1, 0, [273, 0]), (23, .iload 4, 2, 0, 0, 0, []), (25, .iaload, 1, 0, 0, 0, []), (26, .istore 5, 2, 0, 0, 0, []), (28, .aload_n 0, 1, 0, 0, 0, []), (29, .getfield 28, 3, 7, 2, 0, [281, 0]), (32, .iload 5, 2, 0, 0, 0, []), (34, .invokevirtual 138, 3, 29, 1, 0, [490, 491, 492]), (37, .iload_n 2, 1, 0, 0, 0, []), (38, .iand, 1, 0, 0, 0, []), (39, .ifCond .eq 10, 3, 29, 0, 0, []), (42, .iload_n 3, 1, 0, 0, 0, []), (43, .iconst 1, 1, 0, 0, 0, []), (44, .iload 5, 2, 0, 0, 0, []), (46, .ishl, 1, 0, 0, 0, []), (47, .ior, 1, 0, 0, 0, []), (48, .istore_n 3, 1, 0, 0, 0, []), (49, .iinc 4 1, 3, 0, 0, 0, []), (52, .goto (-42), 3, 7, 0, 0, []), (55, .iload_n 3, 1, 0, 0, 0, []), (56, .ireturn, 1, 0, 0, 0, [])]
-- 77: LetterDaysModel.within
def am_t77 : List am_En := [(0, .iload_n 0, 1, 0, 0, 0, []), (1, .iload_n 1, 1, 0, 0, 0, []), (2, .if_icmp .lt 12, 3, 8, 0, 0, []), (5, .iload_n 0, 1, 0, 0, 0, []), (6, .iload_n 2, 1, 0, 0, 0, []), (7, .if_icmp .gt 7, 3, 8, 0, 0, []), (10, .iconst 1, 1, 0, 0, 0, []), (11, .goto 4, 3, 9, 0, 0, []), (14, .iconst 0, 1, 0, 0, 0, []), (15, .ireturn, 1, 0, 0, 0, [])]
-- 78: LetterDaysModel.isLetter
def am_t78 : List am_En := [(0, .iload_n 1, 1, 0, 0, 0, []), (1, .iconst 0, 1, 0, 0, 0, []), (2, .aload_n 0, 1, 0, 0, 0, []), (3, .getfield 56, 3, 8, 0, 0, [634, 0]), (6, .iconst 1, 1, 0, 0, 0, []), (7, .isub, 1, 0, 0, 0, []), (8, .invokestatic 60, 3, 77, 3, 0, [697, 698]), (11, .ireturn, 1, 0, 0, 0, [])]
-- 79: LetterDaysModel.isNote
def am_t79 : List am_En := [(0, .iload_n 1, 1, 0, 0, 0, []), (1, .iconst 0, 1, 0, 0, 0, []), (2, .aload_n 0, 1, 0, 0, 0, []), (3, .getfield 64, 3, 8, 3, 0, [637, 0]), (6, .iconst 1, 1, 0, 0, 0, []), (7, .isub, 1, 0, 0, 0, []), (8, .invokestatic 60, 3, 77, 3, 0, [697, 698]), (11, .ireturn, 1, 0, 0, 0, [])]
-- 80: LetterDaysModel.isStamp
def am_t80 : List am_En := [(0, .iload_n 0, 1, 0, 0, 0, []), (1, .iconst 0, 1, 0, 0, 0, []), (2, .sipush 199, 3, 0, 0, 0, []), (5, .invokestatic 60, 3, 77, 3, 0, [697, 698]), (8, .ifCond .eq 18, 3, 12, 0, 0, []), (11, .iload_n 1, 1, 0, 0, 0, []), (12, .iload_n 0, 1, 0, 0, 0, []), (13, .sipush 199, 3, 0, 0, 0, []), (16, .invokestatic 60, 3, 77, 3, 0, [697, 698]), (19, .ifCond .eq 7, 3, 12, 0, 0, []), (22, .iconst 1, 1, 0, 0, 0, []), (23, .goto 4, 3, 13, 0, 0, []), (26, .iconst 0, 1, 0, 0, 0, []), (27, .ireturn, 1, 0, 0, 0, [])]
-- 81: LetterDaysModel.letter
def am_t81 : List am_En := [(0, .iload_n 1, 1, 0, 0, 0, []), (1, .iload_n 2, 1, 0, 0, 0, []), (2, .invokestatic 67, 3, 80, 2, 0, [694, 695]), (5, .ifCond .ne 6, 3, 6, 0, 0, []), (8, .bipush (-2), 2, 0, 0, 0, []), (10, .ireturn, 1, 0, 0, 0, []), (11, .aload_n 0, 1, 0, 0, 0, []), (12, .getfield 56, 3, 8, 0, 0, [634, 0]), (15, .bipush 8, 2, 0, 0, 0, []), (17, .if_icmp .ne 6, 3, 12, 0, 0, []), (20, .bipush (-4), 2, 0, 0, 0, []), (22, .ireturn, 1, 0, 0, 0, []), (23, .aload_n 0, 1, 0, 0, 0, []), (24, .getfield 7, 3, 8, 1, 0, [635, 0]), (27, .aload_n 0, 1, 0, 0, 0, []), (28, .getfield 56, 3, 8, 0, 0, [634, 0]), (31, .iload_n 1, 1, 0, 0, 0, []), (32, .iastore, 1, 0, 0, 0, []), (33, .aload_n 0, 1, 0, 0, 0, []), (34, .getfield 13, 3, 8, 2, 0, [636, 0]), (37, .aload_n 0, 1, 0, 0, 0, []), (38, .getfield 56, 3, 8, 0, 0, [634, 0]), (41, .iload_n 2, 1, 0, 0, 0, []), (42, .iastore, 1, 0, 0, 0, []), (43, .aload_n 0, 1, 0, 0, 0, []), (44, .dup, 1, 0, 0, 0, []), (45, .getfield 56, 3, 8, 0, 0, [634, 0]), (48, .iconst 1, 1, 0, 0, 0, []), (49, .iadd, 1, 0, 0, 0, []), (50, .putfield 56, 3, 8, 0, 0, [634, 0]), (53, .aload_n 0, 1, 0, 0, 0, []), (54, .getfield 56, 3, 8, 0, 0, [634, 0]), (57, .iconst 1, 1, 0, 0, 0, []), (58, .isub, 1, 0, 0, 0, []), (59, .ireturn, 1, 0, 0, 0, [])]
-- 82: LetterDaysModel.stamp
def am_t82 : List am_En := [(0, .aload_n 0, 1, 0, 0, 0, []), (1, .iload_n 1, 1, 0, 0, 0, []), (2, .invokevirtual 71, 3, 78, 1, 0, [704, 706, 16]), (5, .ifCond .ne 5, 3, 6, 0, 0, []), (8, .iconst (-1), 1, 0, 0, 0, []), (9, .ireturn, 1, 0, 0, 0, []), (10, .iload_n 2, 1, 0, 0, 0, []), (11, .iload_n 3, 1, 0, 0, 0, []), (12, .invokestatic 67, 3, 80, 2, 0, [694, 695]), (15, .ifCond .ne 6, 3, 12, 0, 0, []), (18, .bipush (-2), 2, 0, 0, 0, []), (20, .ireturn, 1, 0, 0, 0, []), (21, .aload_n 0, 1, 0, 0, 0, []), (22, .getfield 7, 3, 8, 1, 0, [635, 0]), (25, .iload_n 1, 1, 0, 0, 0, []), (26, .iaload, 1, 0, 0, 0, []), (27, .istore 4, 2, 0, 0, 0, []), (29, .aload_n 0, 1, 0, 0, 0, []), (30, .getfield 7, 3, 8, 1, 0, [635, 0]), (33, .iload_n 1, 1, 0, 0, 0, []), (34, .iload_n 2, 1, 0, 0, 0, []), (35, .iastore, 1, 0, 0, 0, []), (36, .aload_n 0, 1, 0, 0, 0, []), (37, .getfield 13, 3, 8, 2, 0, [636, 0]), (40, .iload_n 1, 1, 0, 0, 0, []), (41, .iload_n 3, 1, 0, 0, 0, []), (42, .iastore, 1, 0, 0, 0, []), (43, .iload 4, 2, 0, 0, 0, []), (45, .ireturn, 1, 0, 0, 0, [])]
-- 83: LetterDaysModel.note
def am_t83 : List am_En := [(0, .iload_n 1, 1, 0, 0, 0, []), (1, .iconst 0, 1, 0, 0, 0, []), (2, .iconst 4, 1, 0, 0, 0, []), (3, .invokestatic 60, 3, 77, 3, 0, [697, 698]), (6, .ifCond .ne 6, 3, 7, 0, 0, []), (9, .bipush (-2), 2, 0, 0, 0, []), (11, .ireturn, 1, 0, 0, 0, []), (12, .iload_n 1, 1, 0, 0, 0, []), (13, .ifCond .eq 8, 3, 12, 0, 0, []), (16, .iload_n 1, 1, 0, 0, 0, []), (17, .iconst 1, 1, 0, 0, 0, []), (18, .if_icmp .ne 7, 3, 14, 0, 0, []), (21, .iconst 1, 1, 0, 0, 0, []), (22, .goto 4, 3, 15, 0, 0, []), (25, .iconst 0, 1, 0, 0, 0, []), (26, .istore 6, 2, 0, 0, 0, []), (28, .aload_n 0, 1, 0, 0, 0, []), (29, .iload_n 2, 1, 0, 0, 0, []), (30, .invokevirtual 71, 3, 78, 1, 0, [704, 706, 16]), (33, .ifCond .eq 26, 3, 32, 0, 0, []), (36, .aload_n 0, 1, 0, 0, 0, []), (37, .iload_n 3, 1, 0, 0, 0, []), (38, .invokevirtual 71, 3, 78, 1, 0, [704, 706, 16]), (41, .ifCond .eq 18, 3, 32, 0, 0, []), (44, .iload 6, 2, 0, 0, 0, []), (46, .iload_n 2, 1, 0, 0, 0, []), (47, .iload_n 3, 1, 0, 0, 0, []), (48, .if_icmp .ne 7, 3, 30, 0, 0, []), (51, .iconst 1, 1, 0, 0, 0, []), (52, .goto 4, 3, 31, 0, 0, []), (55, .iconst 0, 1, 0, 0, 0, []), (56, .if_icmp .ne 5, 3, 34, 0, 0, []), (59, .iconst (-1), 1, 0, 0, 0, []), (60, .ireturn, 1, 0, 0, 0, []), (61, .iload 6, 2, 0, 0, 0, []), (63, .ifCond .eq 8, 3, 38, 0, 0, []), (66, .bipush 99, 2, 0, 0, 0, []), (68, .goto 16, 3, 44, 0, 0, []), (71, .iload_n 1, 1, 0, 0, 0, []), (72, .iconst 4, 1, 0, 0, 0, []), (73, .if_icmp .ne 8, 3, 43, 0, 0, []), (76, .bipush 6, 2, 0, 0, 0, []), (78, .goto 6, 3, 44, 0, 0, []), (81, .sipush 199, 3, 0, 0, 0, []), (84, .istore 7, 2, 0, 0, 0, []), (86, .iload 4, 2, 0, 0, 0, []), (88, .iconst 0, 1, 0, 0, 0, []), (89, .iload 7, 2, 0, 0, 0, []), (91, .invokestatic 60, 3, 77, 3, 0, [697, 698]), (94, .ifCond .eq 14, 3, 55, 0, 0, []), (97, .iload 5, 2, 0, 0, 0, []), (99, .iconst 1, 1, 0, 0, 0, []), (100, .bipush 9, 2, 0, 0, 0, []), (102, .invokestatic 60, 3, 77, 3, 0, [697, 698]), (105, .ifCond .ne 6, 3, 57, 0, 0, []), (108, .bipush (-2), 2, 0, 0, 0, []), (110, .ireturn, 1, 0, 0, 0, []), (111, .aload_n 0, 1, 0, 0, 0, []), (112, .getfield 64, 3, 8, 3, 0, [637, 0]), (115, .bipush 10, 2, 0, 0, 0, []), (117, .if_icmp .ne 6, 3, 63, 0, 0, []), (120, .bipush (-4), 2, 0, 0, 0, []), (122, .ireturn, 1, 0, 0, 0, []), (123, .aload_n 0, 1, 0, 0, 0, []), (124, .getfield 16, 3, 8, 4, 0, [638, 0]), (127, .aload_n 0, 1, 0, 0, 0, []), (128, .getfield 64, 3, 8, 3, 0, [637, 0]), (131, .iload_n 1, 1, 0, 0, 0, []), (132, .iastore, 1, 0, 0, 0, []), (133, .aload_n 0, 1, 0, 0, 0, []), (134, .getfield 19, 3, 8, 5, 0, [639, 0]), (137, .aload_n 0, 1, 0, 0, 0, []), (138, .getfield 64, 3, 8, 3, 0, [637, 0]), (141, .iload_n 2, 1, 0, 0, 0, []), (142, .iastore, 1, 0, 0, 0, []), (143, .aload_n 0, 1, 0, 0, 0, []), (144, .getfield 22, 3, 8, 6, 0, [640, 0]), (147, .aload_n 0, 1, 0, 0, 0, []), (148, .getfield 64, 3, 8, 3, 0, [637, 0]), (151, .iload_n 3, 1, 0, 0, 0, []), (152, .iastore, 1, 0, 0, 0, []), (153, .aload_n 0, 1, 0, 0, 0, []), (154, .getfield 25, 3, 8, 7, 0, [641, 0]), (157, .aload_n 0, 1, 0, 0, 0, []), (158, .getfield 64, 3, 8, 3, 0, [637, 0]), (161, .iload 4, 2, 0, 0, 0, []), (163, .iastore, 1, 0, 0, 0, []), (164, .aload_n 0, 1, 0, 0, 0, []), (165, .getfield 28, 3, 8, 8, 0, [642, 0]), (168, .aload_n 0, 1, 0, 0, 0, []), (169, .getfield 64, 3, 8, 3, 0, [637, 0]), (172, .iload 5, 2, 0, 0, 0, []), (174, .iastore, 1, 0, 0, 0, []), (175, .aload_n 0, 1, 0, 0, 0, []), (176, .getfield 31, 3, 8, 9, 0, [643, 0]), (179, .aload_n 0, 1, 0, 0, 0, []), (180, .getfield 64, 3, 8, 3, 0, [637, 0]), (183, .iconst 1, 1, 0, 0, 0, []), (184, .bastore, 1, 0, 0, 0, []), (185, .aload_n 0, 1, 0, 0, 0, []), (186, .dup, 1, 0, 0, 0, []), (187, .getfield 64, 3, 8, 3, 0, [637, 0]), (190, .iconst 1, 1, 0, 0, 0, []), (191, .iadd, 1, 0, 0, 0, []), (192, .putfield 64, 3, 8, 3, 0, [637, 0]), (195, .aload_n 0, 1, 0, 0, 0, []), (196, .getfield 64, 3, 8, 3, 0, [637, 0]), (199, .iconst 1, 1, 0, 0, 0, []), (200, .isub, 1, 0, 0, 0, []), (201, .ireturn, 1, 0, 0, 0, [])]
-- 84: LetterDaysModel.force
def am_t84 : List am_En := [(0, .aload_n 0, 1, 0, 0, 0, []), (1, .iload_n 1, 1, 0, 0, 0, []), (2, .invokevirtual 75, 3, 79, 1, 0, [716, 718, 17]), (5, .ifCond .ne 5, 3, 6, 0, 0, []), (8, .iconst (-1), 1, 0, 0, 0, []), (9, .ireturn, 1, 0, 0, 0, []), (10, .aload_n 0, 1, 0, 0, 0, []), (11, .getfield 31, 3, 8, 9, 0, [643, 0]), (14, .iload_n 1, 1, 0, 0, 0, []), (15, .baload, 1, 0, 0, 0, []), (16, .iload_n 2, 1, 0, 0, 0, []), (17, .if_icmp .ne 5, 3, 14, 0, 0, []), (20, .iconst 0, 1, 0, 0, 0, []), (21, .ireturn, 1, 0, 0, 0, []), (22, .aload_n 0, 1, 0, 0, 0, []), (23, .getfield 31, 3, 8, 9, 0, [643, 0]), (26, .iload_n 1, 1, 0, 0, 0, []), (27, .iload_n 2, 1, 0, 0, 0, []), (28, .bastore, 1, 0, 0, 0, []), (29, .iconst 1, 1, 0, 0, 0, []), (30, .ireturn, 1, 0, 0, 0, [])]
-- 85: LetterDaysModel.unnote
def am_t85 : List am_En := [(0, .aload_n 0, 1, 0, 0, 0, []), (1, .getfield 64, 3, 8, 3, 0, [637, 0]), (4, .ifCond .ne 6, 3, 5, 0, 0, []), (7, .bipush (-3), 2, 0, 0, 0, []), (9, .ireturn, 1, 0, 0, 0, []), (10, .aload_n 0, 1, 0, 0, 0, []), (11, .dup, 1, 0, 0, 0, []), (12, .getfield 64, 3, 8, 3, 0, [637, 0]), (15, .iconst 1, 1, 0, 0, 0, []), (16, .isub, 1, 0, 0, 0, []), (17, .putfield 64, 3, 8, 3, 0, [637, 0]), (20, .aload_n 0, 1, 0, 0, 0, []), (21, .getfield 64, 3, 8, 3, 0, [637, 0]), (24, .ireturn, 1, 0, 0, 0, [])]
-- 86: LetterDaysModel.unletter
def am_t86 : List am_En := [(0, .aload_n 0, 1, 0, 0, 0, []), (1, .getfield 56, 3, 8, 0, 0, [634, 0]), (4, .ifCond .ne 6, 3, 5, 0, 0, []), (7, .bipush (-3), 2, 0, 0, 0, []), (9, .ireturn, 1, 0, 0, 0, []), (10, .iconst 0, 1, 0, 0, 0, []), (11, .istore_n 1, 1, 0, 0, 0, []), (12, .iload_n 1, 1, 0, 0, 0, []), (13, .aload_n 0, 1, 0, 0, 0, []), (14, .getfield 64, 3, 8, 3, 0, [637, 0]), (17, .if_icmp .ge 42, 3, 33, 0, 0, []), (20, .aload_n 0, 1, 0, 0, 0, []), (21, .getfield 19, 3, 8, 5, 0, [639, 0]), (24, .iload_n 1, 1, 0, 0, 0, []), (25, .iaload, 1, 0, 0, 0, []), (26, .aload_n 0, 1, 0, 0, 0, []), (27, .getfield 56, 3, 8, 0, 0, [634, 0]), (30, .iconst 1, 1, 0, 0, 0, []), (31, .isub, 1, 0, 0, 0, []), (32, .if_icmp .eq 18, 3, 29, 0, 0, []), (35, .aload_n 0, 1, 0, 0, 0, []), (36, .getfield 22, 3, 8, 6, 0, [640, 0]), (39, .iload_n 1, 1, 0, 0, 0, []), (40, .iaload, 1, 0, 0, 0, []), (41, .aload_n 0, 1, 0, 0, 0, []), (42, .getfield 56, 3, 8, 0, 0, [634, 0]), (45, .iconst 1, 1, 0, 0, 0, []), (46, .isub, 1, 0, 0, 0, []), (47, .if_icmp .ne 6, 3, 31, 0, 0, []), (50, .bipush (-3), 2, 0, 0, 0, []), (52, .ireturn, 1, 0, 0, 0, []), (53, .iinc 1 1, 3, 0, 0, 0, []), (56, .goto (-44), 3, 7, 0, 0, []), (59, .aload_n 0, 1, 0, 0, 0, []), (60, .dup, 1, 0, 0, 0, []), (61, .getfield 56, 3, 8, 0, 0, [634, 0]), (64, .iconst 1, 1, 0, 0, 0, []), (65, .isub, 1, 0, 0, 0, []), (66, .putfield 56, 3, 8, 0, 0, [634, 0]), (69, .iconst 0, 1, 0, 0, 0, []), (70, .istore_n 1, 1, 0, 0, 0, []), (71, .iload_n 1, 1, 0, 0, 0, []), (72, .iconst 3, 1, 0, 0, 0, []), (73, .if_icmp .ge 23, 3, 54, 0, 0, []), (76, .aload_n 0, 1, 0, 0, 0, []), (77, .iload_n 1, 1, 0, 0, 0, []), (78, .aload_n 0, 1, 0, 0, 0, []), (79, .iload_n 1, 1, 0, 0, 0, []), (80, .aload_n 0, 1, 0, 0, 0, []), (81, .getfield 56, 3, 8, 0, 0, [634, 0]), (84, .invokevirtual 78, 3, 121, 2, 0, [728, 730, 18]), (87, .invokevirtual 82, 3, 122, 2, 0, [732, 734, 19]), (90, .iinc 1 1, 3, 0, 0, 0, []), (93, .goto (-22), 3, 41, 0, 0, []), (96, .aload_n 0, 1, 0, 0, 0, []), (97, .getfield 56, 3, 8, 0, 0, [634, 0]), (100, .ireturn, 1, 0, 0, 0, [])]
-- 87: LetterDaysModel.notesAbout
def am_t87 : List am_En := [(0, .iconst 0, 1, 0, 0, 0, []), (1, .istore_n 2, 1, 0, 0, 0, []), (2, .iconst 0, 1, 0, 0, 0, []), (3, .istore_n 3, 1, 0, 0, 0, []), (4, .iload_n 3, 1, 0, 0, 0, []), (5, .aload_n 0, 1, 0, 0, 0, []), (6, .getfield 64, 3, 8, 3, 0, [637, 0]), (9, .if_icmp .ge 46, 3, 33, 0, 0, []), (12, .iload_n 2, 1, 0, 0, 0, []), (13, .aload_n 0, 1, 0, 0, 0, []), (14, .getfield 31, 3, 8, 9, 0, [643, 0]), (17, .iload_n 3, 1, 0, 0, 0, []), (18, .baload, 1, 0, 0, 0, []), (19, .ifCond .eq 27, 3, 28, 0, 0, []), (22, .aload_n 0, 1, 0, 0, 0, []), (23, .getfield 19, 3, 8, 5, 0, [639, 0]), (26, .iload_n 3, 1, 0, 0, 0, []), (27, .iaload, 1, 0, 0, 0, []), (28, .iload_n 1, 1, 0, 0, 0, []), (29, .if_icmp .eq 13, 3, 26, 0, 0, []), (32, .aload_n 0, 1, 0, 0, 0, []), (33, .getfield 22, 3, 8, 6, 0, [640, 0]), (36, .iload_n 3, 1, 0, 0, 0, []), (37, .iaload, 1, 0, 0, 0, []), (38, .iload_n 1, 1, 0, 0, 0, []), (39, .if_icmp .ne 7, 3, 28, 0, 0, []), (42, .iconst 1, 1, 0, 0, 0, []), (43, .goto 4, 3, 29, 0, 0, []), (46, .iconst 0, 1, 0, 0, 0, []), (47, .iadd, 1, 0, 0, 0, []), (48, .istore_n 2, 1, 0, 0, 0, []), (49, .iinc 3 1, 3, 0, 0, 0, []), (52, .goto (-48), 3, 4, 0, 0, []), (55, .iload_n 2, 1, 0, 0, 0, []), (56, .ireturn, 1, 0, 0, 0, [])]
-- 88: LetterDaysModel.bundlesOf
def am_t88 : List am_En := [(0, .iconst 0, 1, 0, 0, 0, []), (1, .istore_n 2, 1, 0, 0, 0, []), (2, .iconst 0, 1, 0, 0, 0, []), (3, .istore_n 3, 1, 0, 0, 0, []), (4, .iload_n 3, 1, 0, 0, 0, []), (5, .iconst 3, 1, 0, 0, 0, []), (6, .if_icmp .ge 30, 3, 23, 0, 0, []), (9, .iload_n 2, 1, 0, 0, 0, []), (10, .aload_n 0, 1, 0, 0, 0, []), (11, .iload_n 3, 1, 0, 0, 0, []), (12, .iload_n 1, 1, 0, 0, 0, []), (13, .invokevirtual 78, 3, 121, 2, 0, [728, 730, 18]), (16, .bipush (-9), 2, 0, 0, 0, []), (18, .if_icmp .eq 9, 3, 18, 0, 0, []), (21, .iconst 1, 1, 0, 0, 0, []), (22, .iload_n 3, 1, 0, 0, 0, []), (23, .ishl, 1, 0, 0, 0, []), (24, .goto 4, 3, 19, 0, 0, []), (27, .iconst 0, 1, 0, 0, 0, []), (28, .ior, 1, 0, 0, 0, []), (29, .istore_n 2, 1, 0, 0, 0, []), (30, .iinc 3 1, 3, 0, 0, 0, []), (33, .goto (-29), 3, 4, 0, 0, []), (36, .iload_n 2, 1, 0, 0, 0, []), (37, .ireturn, 1, 0, 0, 0, [])]
-- 89: LetterDaysModel.ofLetter
def am_t89 : List am_En := [(0, .aload_n 0, 1, 0, 0, 0, []), (1, .iload_n 1, 1, 0, 0, 0, []), (2, .invokevirtual 71, 3, 78, 1, 0, [704, 706, 16]), (5, .ifCond .ne 5, 3, 6, 0, 0, []), (8, .iconst (-1), 1, 0, 0, 0, []), (9, .ireturn, 1, 0, 0, 0, []), (10, .iload_n 2, 1, 0, 0, 0, []), (11, .tableswitch 55 0 3 #[29, 36, 43, 49], 29, 26, 0, 0, [8, 13, 18, 22]), (40, .aload_n 0, 1, 0, 0, 0, []), (41, .getfield 7, 3, 8, 1, 0, [635, 0]), (44, .iload_n 1, 1, 0, 0, 0, []), (45, .iaload, 1, 0, 0, 0, []), (46, .ireturn, 1, 0, 0, 0, []), (47, .aload_n 0, 1, 0, 0, 0, []), (48, .getfield 13, 3, 8, 2, 0, [636, 0]), (51, .iload_n 1, 1, 0, 0, 0, []), (52, .iaload, 1, 0, 0, 0, []), (53, .ireturn, 1, 0, 0, 0, []), (54, .aload_n 0, 1, 0, 0, 0, []), (55, .iload_n 1, 1, 0, 0, 0, []), (56, .invokevirtual 86, 3, 87, 1, 0, [740, 742, 20]), (59, .ireturn, 1, 0, 0, 0, []), (60, .aload_n 0, 1, 0, 0, 0, []), (61, .iload_n 1, 1, 0, 0, 0, []), (62, .invokevirtual 90, 3, 88, 1, 0, [744, 746, 21]), (65, .ireturn, 1, 0, 0, 0, []), (66, .bipush (-2), 2, 0, 0, 0, []), (68, .ireturn, 1, 0, 0, 0, [])]
-- 90: LetterDaysModel.ofNote
def am_t90 : List am_En := [(0, .aload_n 0, 1, 0, 0, 0, []), (1, .iload_n 1, 1, 0, 0, 0, []), (2, .invokevirtual 75, 3, 79, 1, 0, [716, 718, 17]), (5, .ifCond .ne 5, 3, 6, 0, 0, []), (8, .iconst (-1), 1, 0, 0, 0, []), (9, .ireturn, 1, 0, 0, 0, []), (10, .iload_n 2, 1, 0, 0, 0, []), (11, .tableswitch 87 0 5 #[37, 44, 51, 58, 65, 72], 37, 42, 0, 0, [8, 13, 18, 23, 28, 33]), (48, .aload_n 0, 1, 0, 0, 0, []), (49, .getfield 16, 3, 8, 4, 0, [638, 0]), (52, .iload_n 1, 1, 0, 0, 0, []), (53, .iaload, 1, 0, 0, 0, []), (54, .ireturn, 1, 0, 0, 0, []), (55, .aload_n 0, 1, 0, 0, 0, []), (56, .getfield 19, 3, 8, 5, 0, [639, 0]), (59, .iload_n 1, 1, 0, 0, 0, []), (60, .iaload, 1, 0, 0, 0, []), (61, .ireturn, 1, 0, 0, 0, []), (62, .aload_n 0, 1, 0, 0, 0, []), (63, .getfield 22, 3, 8, 6, 0, [640, 0]), (66, .iload_n 1, 1, 0, 0, 0, []), (67, .iaload, 1, 0, 0, 0, []), (68, .ireturn, 1, 0, 0, 0, []), (69, .aload_n 0, 1, 0, 0, 0, []), (70, .getfield 25, 3, 8, 7, 0, [641, 0]), (73, .iload_n 1, 1, 0, 0, 0, []), (74, .iaload, 1, 0, 0, 0, []), (75, .ireturn, 1, 0, 0, 0, []), (76, .aload_n 0, 1, 0, 0, 0, []), (77, .getfield 28, 3, 8, 8, 0, [642, 0]), (80, .iload_n 1, 1, 0, 0, 0, []), (81, .iaload, 1, 0, 0, 0, []), (82, .ireturn, 1, 0, 0, 0, []), (83, .aload_n 0, 1, 0, 0, 0, []), (84, .getfield 31, 3, 8, 9, 0, [643, 0]), (87, .iload_n 1, 1, 0, 0, 0, []), (88, .baload, 1, 0, 0, 0, []), (89, .ifCond .eq 7, 3, 40, 0, 0, []), (92, .iconst 1, 1, 0, 0, 0, []), (93, .goto 4, 3, 41, 0, 0, []), (96, .iconst 0, 1, 0, 0, 0, []), (97, .ireturn, 1, 0, 0, 0, []), (98, .bipush (-2), 2, 0, 0, 0, []), (100, .ireturn, 1, 0, 0, 0, [])]
-- 91: LetterDaysModel.bounds
def am_t91 : List am_En := [(0, .bipush 9, 2, 0, 0, 0, []), (2, .iload_n 1, 1, 0, 0, 0, []), (3, .imul, 1, 0, 0, 0, []), (4, .iload_n 2, 1, 0, 0, 0, []), (5, .iadd, 1, 0, 0, 0, []), (6, .istore 4, 2, 0, 0, 0, []), (8, .aload_n 0, 1, 0, 0, 0, []), (9, .getfield 35, 3, 8, 10, 0, [644, 0]), (12, .iload 4, 2, 0, 0, 0, []), (14, .iload_n 3, 1, 0, 0, 0, []), (15, .aload_n 0, 1, 0, 0, 0, []), (16, .getfield 35, 3, 8, 10, 0, [644, 0]), (19, .iload 4, 2, 0, 0, 0, []), (21, .iaload, 1, 0, 0, 0, []), (22, .if_icmp .ge 7, 3, 17, 0, 0, []), (25, .iload_n 3, 1, 0, 0, 0, []), (26, .goto 10, 3, 21, 0, 0, []), (29, .aload_n 0, 1, 0, 0, 0, []), (30, .getfield 35, 3, 8, 10, 0, [644, 0]), (33, .iload 4, 2, 0, 0, 0, []), (35, .iaload, 1, 0, 0, 0, []), (36, .iastore, 1, 0, 0, 0, []), (37, .return_, 1, 0, 0, 0, [])]
-- 92: LetterDaysModel.takesNote
def am_t92 : List am_En := [(0, .aload_n 0, 1, 0, 0, 0, []), (1, .getfield 19, 3, 8, 5, 0, [639, 0]), (4, .iload_n 1, 1, 0, 0, 0, []), (5, .iaload, 1, 0, 0, 0, []), (6, .istore_n 2, 1, 0, 0, 0, []), (7, .aload_n 0, 1, 0, 0, 0, []), (8, .getfield 22, 3, 8, 6, 0, [640, 0]), (11, .iload_n 1, 1, 0, 0, 0, []), (12, .iaload, 1, 0, 0, 0, []), (13, .istore_n 3, 1, 0, 0, 0, []), (14, .aload_n 0, 1, 0, 0, 0, []), (15, .getfield 25, 3, 8, 7, 0, [641, 0]), (18, .iload_n 1, 1, 0, 0, 0, []), (19, .iaload, 1, 0, 0, 0, []), (20, .istore 4, 2, 0, 0, 0, []), (22, .aload_n 0, 1, 0, 0, 0, []), (23, .getfield 16, 3, 8, 4, 0, [638, 0]), (26, .iload_n 1, 1, 0, 0, 0, []), (27, .iaload, 1, 0, 0, 0, []), (28, .tableswitch 88 0 3 #[32, 44, 63, 76], 32, 51, 0, 0, [20, 27, 38, 45]), (60, .aload_n 0, 1, 0, 0, 0, []), (61, .iload_n 2, 1, 0, 0, 0, []), (62, .iload_n 3, 1, 0, 0, 0, []), (63, .iload 4, 2, 0, 0, 0, []), (65, .ineg, 1, 0, 0, 0, []), (66, .invokevirtual 93, 3, 91, 3, 0, [773, 775, 26]), (69, .goto 93, 3, 76, 0, 0, []), (72, .aload_n 0, 1, 0, 0, 0, []), (73, .iload_n 2, 1, 0, 0, 0, []), (74, .iload_n 3, 1, 0, 0, 0, []), (75, .iload 4, 2, 0, 0, 0, []), (77, .invokevirtual 93, 3, 91, 3, 0, [773, 775, 26]), (80, .aload_n 0, 1, 0, 0, 0, []), (81, .iload_n 3, 1, 0, 0, 0, []), (82, .iload_n 2, 1, 0, 0, 0, []), (83, .iload 4, 2, 0, 0, 0, []), (85, .invokevirtual 93, 3, 91, 3, 0, [773, 775, 26]), (88, .goto 74, 3, 76, 0, 0, []), (91, .aload_n 0, 1, 0, 0, 0, []), (92, .iload_n 2, 1, 0, 0, 0, []), (93, .bipush 8, 2, 0, 0, 0, []), (95, .iload 4, 2, 0, 0, 0, []), (97, .ineg, 1, 0, 0, 0, []), (98, .invokevirtual 93, 3, 91, 3, 0, [773, 775, 26]), (101, .goto 61, 3, 76, 0, 0, []), (104, .aload_n 0, 1, 0, 0, 0, []), (105, .bipush 8, 2, 0, 0, 0, []), (107, .iload_n 2, 1, 0, 0, 0, []), (108, .iload 4, 2, 0, 0, 0, []), (110, .invokevirtual 93, 3, 91, 3, 0, [773, 775, 26]), (113, .goto 49, 3, 76, 0, 0, []), (116, .aload_n 0, 1, 0, 0, 0, []), (117, .aload_n 0, 1, 0, 0, 0, []), (118, .getfield 97, 3, 8, 12, 0, [646, 1]), (121, .ifCond .eq 29, 3, 69, 0, 0, []), (124, .aload_n 0, 1, 0, 0, 0, []), (125, .getfield 38, 3, 8, 11, 0, [645, 0]), (128, .iload_n 2, 1, 0, 0, 0, []), (129, .iaload, 1, 0, 0, 0, []), (130, .bipush (-9), 2, 0, 0, 0, []), (132, .if_icmp .eq 14, 3, 67, 0, 0, []), (135, .aload_n 0, 1, 0, 0, 0, []), (136, .getfield 38, 3, 8, 11, 0, [645, 0]), (139, .iload_n 2, 1, 0, 0, 0, []), (140, .iaload, 1, 0, 0, 0, []), (141, .iload 4, 2, 0, 0, 0, []), (143, .if_icmp .ne 7, 3, 69, 0, 0, []), (146, .iconst 1, 1, 0, 0, 0, []), (147, .goto 4, 3, 70, 0, 0, []), (150, .iconst 0, 1, 0, 0, 0, []), (151, .putfield 97, 3, 8, 12, 0, [646, 1]), (154, .aload_n 0, 1, 0, 0, 0, []), (155, .getfield 38, 3, 8, 11, 0, [645, 0]), (158, .iload_n 2, 1, 0, 0, 0, []), (159, .iload 4, 2, 0, 0, 0, []), (161, .iastore, 1, 0, 0, 0, []), (162, .return_, 1, 0, 0, 0, [])]
-- 93: LetterDaysModel.setInForce
def am_t93 : List am_En := [(0, .iconst 0, 1, 0, 0, 0, []), (1, .istore_n 1, 1, 0, 0, 0, []), (2, .iconst 0, 1, 0, 0, 0, []), (3, .istore_n 2, 1, 0, 0, 0, []), (4, .iload_n 2, 1, 0, 0, 0, []), (5, .aload_n 0, 1, 0, 0, 0, []), (6, .getfield 64, 3, 8, 3, 0, [637, 0]), (9, .if_icmp .ge 28, 3, 23, 0, 0, []), (12, .iload_n 1, 1, 0, 0, 0, []), (13, .aload_n 0, 1, 0, 0, 0, []), (14, .getfield 31, 3, 8, 9, 0, [643, 0]), (17, .iload_n 2, 1, 0, 0, 0, []), (18, .baload, 1, 0, 0, 0, []), (19, .ifCond .eq 9, 3, 18, 0, 0, []), (22, .iconst 1, 1, 0, 0, 0, []), (23, .iload_n 2, 1, 0, 0, 0, []), (24, .ishl, 1, 0, 0, 0, []), (25, .goto 4, 3, 19, 0, 0, []), (28, .iconst 0, 1, 0, 0, 0, []), (29, .ior, 1, 0, 0, 0, []), (30, .istore_n 1, 1, 0, 0, 0, []), (31, .iinc 2 1, 3, 0, 0, 0, []), (34, .goto (-30), 3, 4, 0, 0, []), (37, .iload_n 1, 1, 0, 0, 0, []), (38, .ireturn, 1, 0, 0, 0, [])]
-- 94: LetterDaysModel.isNode
def am_t94 : List am_En := [(0, .iload_n 1, 1, 0, 0, 0, []), (1, .aload_n 0, 1, 0, 0, 0, []), (2, .getfield 56, 3, 8, 0, 0, [634, 0]), (5, .if_icmp .lt 9, 3, 7, 0, 0, []), (8, .iload_n 1, 1, 0, 0, 0, []), (9, .bipush 8, 2, 0, 0, 0, []), (11, .if_icmp .ne 7, 3, 9, 0, 0, []), (14, .iconst 1, 1, 0, 0, 0, []), (15, .goto 4, 3, 10, 0, 0, []), (18, .iconst 0, 1, 0, 0, 0, []), (19, .ireturn, 1, 0, 0, 0, [])]
-- 95: LetterDaysModel.begins
def am_t95 : List am_En := [(0, .aload_n 0, 1, 0, 0, 0, []), (1, .iconst 1, 1, 0, 0, 0, []), (2, .putfield 97, 3, 8, 12, 0, [646, 1]), (5, .iconst 0, 1, 0, 0, 0, []), (6, .istore_n 2, 1, 0, 0, 0, []), (7, .iload_n 2, 1, 0, 0, 0, []), (8, .bipush 81, 2, 0, 0, 0, []), (10, .if_icmp .ge 32, 3, 24, 0, 0, []), (13, .aload_n 0, 1, 0, 0, 0, []), (14, .getfield 35, 3, 8, 10, 0, [644, 0]), (17, .iload_n 2, 1, 0, 0, 0, []), (18, .iload_n 2, 1, 0, 0, 0, []), (19, .bipush 9, 2, 0, 0, 0, []), (21, .idiv, 1, 0, 0, 0, []), (22, .iload_n 2, 1, 0, 0, 0, []), (23, .bipush 9, 2, 0, 0, 0, []), (25, .irem, 1, 0, 0, 0, []), (26, .if_icmp .ne 7, 3, 20, 0, 0, []), (29, .iconst 0, 1, 0, 0, 0, []), (30, .goto 5, 3, 21, 0, 0, []), (33, .ldc 101, 2, 0, 0, 100000, [772]), (35, .iastore, 1, 0, 0, 0, []), (36, .iinc 2 1, 3, 0, 0, 0, []), (39, .goto (-32), 3, 5, 0, 0, []), (42, .iconst 0, 1, 0, 0, 0, []), (43, .istore_n 2, 1, 0, 0, 0, []), (44, .iload_n 2, 1, 0, 0, 0, []), (45, .bipush 8, 2, 0, 0, 0, []), (47, .if_icmp .ge 52, 3, 57, 0, 0, []), (50, .aload_n 0, 1, 0, 0, 0, []), (51, .getfield 38, 3, 8, 11, 0, [645, 0]), (54, .iload_n 2, 1, 0, 0, 0, []), (55, .bipush (-9), 2, 0, 0, 0, []), (57, .iastore, 1, 0, 0, 0, []), (58, .iload_n 2, 1, 0, 0, 0, []), (59, .aload_n 0, 1, 0, 0, 0, []), (60, .getfield 56, 3, 8, 0, 0, [634, 0]), (63, .if_icmp .ge 30, 3, 55, 0, 0, []), (66, .aload_n 0, 1, 0, 0, 0, []), (67, .bipush 8, 2, 0, 0, 0, []), (69, .iload_n 2, 1, 0, 0, 0, []), (70, .aload_n 0, 1, 0, 0, 0, []), (71, .getfield 13, 3, 8, 2, 0, [636, 0]), (74, .iload_n 2, 1, 0, 0, 0, []), (75, .iaload, 1, 0, 0, 0, []), (76, .invokevirtual 93, 3, 91, 3, 0, [773, 775, 26]), (79, .aload_n 0, 1, 0, 0, 0, []), (80, .iload_n 2, 1, 0, 0, 0, []), (81, .bipush 8, 2, 0, 0, 0, []), (83, .aload_n 0, 1, 0, 0, 0, []), (84, .getfield 7, 3, 8, 1, 0, [635, 0]), (87, .iload_n 2, 1, 0, 0, 0, []), (88, .iaload, 1, 0, 0, 0, []), (89, .ineg, 1, 0, 0, 0, []), (90, .invokevirtual 93, 3, 91, 3, 0, [773, 775, 26]), (93, .iinc 2 1, 3, 0, 0, 0, []), (96, .goto (-52), 3, 26, 0, 0, []), (99, .aload_n 0, 1, 0, 0, 0, []), (100, .getfield 38, 3, 8, 11, 0, [645, 0]), (103, .bipush 8, 2, 0, 0, 0, []), (105, .iconst 0, 1, 0, 0, 0, []), (106, .iastore, 1, 0, 0, 0, []), (107, .iconst 0, 1, 0, 0, 0, []), (108, .istore_n 2, 1, 0, 0, 0, []), (109, .iload_n 2, 1, 0, 0, 0, []), (110, .aload_n 0, 1, 0, 0, 0, []), (111, .getfield 64, 3, 8, 3, 0, [637, 0]), (114, .if_icmp .ge 23, 3, 80, 0, 0, []), (117, .iload_n 1, 1, 0, 0, 0, []), (118, .iload_n 2, 1, 0, 0, 0, []), (119, .ishr, 1, 0, 0, 0, []), (120, .iconst 1, 1, 0, 0, 0, []), (121, .iand, 1, 0, 0, 0, []), (122, .iconst 1, 1, 0, 0, 0, []), (123, .if_icmp .ne 8, 3, 78, 0, 0, []), (126, .aload_n 0, 1, 0, 0, 0, []), (127, .iload_n 2, 1, 0, 0, 0, []), (128, .invokevirtual 102, 3, 92, 1, 0, [777, 779, 27]), (131, .iinc 2 1, 3, 0, 0, 0, []), (134, .goto (-25), 3, 64, 0, 0, []), (137, .return_, 1, 0, 0, 0, [])]
-- 96: LetterDaysModel.draws
def am_t96 : List am_En := [(0, .iconst 0, 1, 0, 0, 0, []), (1, .istore_n 1, 1, 0, 0, 0, []), (2, .iload_n 1, 1, 0, 0, 0, []), (3, .sipush 729, 3, 0, 0, 0, []), (6, .if_icmp .ge 84, 3, 54, 0, 0, []), (9, .iload_n 1, 1, 0, 0, 0, []), (10, .bipush 81, 2, 0, 0, 0, []), (12, .idiv, 1, 0, 0, 0, []), (13, .istore_n 2, 1, 0, 0, 0, []), (14, .iload_n 1, 1, 0, 0, 0, []), (15, .bipush 9, 2, 0, 0, 0, []), (17, .idiv, 1, 0, 0, 0, []), (18, .bipush 9, 2, 0, 0, 0, []), (20, .irem, 1, 0, 0, 0, []), (21, .istore_n 3, 1, 0, 0, 0, []), (22, .iload_n 1, 1, 0, 0, 0, []), (23, .bipush 9, 2, 0, 0, 0, []), (25, .irem, 1, 0, 0, 0, []), (26, .istore 4, 2, 0, 0, 0, []), (28, .aload_n 0, 1, 0, 0, 0, []), (29, .iload_n 2, 1, 0, 0, 0, []), (30, .invokevirtual 106, 3, 94, 1, 0, [785, 787, 29]), (33, .ifCond .eq 51, 3, 52, 0, 0, []), (36, .aload_n 0, 1, 0, 0, 0, []), (37, .iload_n 3, 1, 0, 0, 0, []), (38, .invokevirtual 106, 3, 94, 1, 0, [785, 787, 29]), (41, .ifCond .eq 43, 3, 52, 0, 0, []), (44, .aload_n 0, 1, 0, 0, 0, []), (45, .iload 4, 2, 0, 0, 0, []), (47, .invokevirtual 106, 3, 94, 1, 0, [785, 787, 29]), (50, .ifCond .eq 34, 3, 52, 0, 0, []), (53, .aload_n 0, 1, 0, 0, 0, []), (54, .iload_n 3, 1, 0, 0, 0, []), (55, .iload 4, 2, 0, 0, 0, []), (57, .aload_n 0, 1, 0, 0, 0, []), (58, .getfield 35, 3, 8, 10, 0, [644, 0]), (61, .bipush 9, 2, 0, 0, 0, []), (63, .iload_n 3, 1, 0, 0, 0, []), (64, .imul, 1, 0, 0, 0, []), (65, .iload_n 2, 1, 0, 0, 0, []), (66, .iadd, 1, 0, 0, 0, []), (67, .iaload, 1, 0, 0, 0, []), (68, .aload_n 0, 1, 0, 0, 0, []), (69, .getfield 35, 3, 8, 10, 0, [644, 0]), (72, .bipush 9, 2, 0, 0, 0, []), (74, .iload_n 2, 1, 0, 0, 0, []), (75, .imul, 1, 0, 0, 0, []), (76, .iload 4, 2, 0, 0, 0, []), (78, .iadd, 1, 0, 0, 0, []), (79, .iaload, 1, 0, 0, 0, []), (80, .iadd, 1, 0, 0, 0, []), (81, .invokevirtual 93, 3, 91, 3, 0, [773, 775, 26]), (84, .iinc 1 1, 3, 0, 0, 0, []), (87, .goto (-85), 3, 2, 0, 0, []), (90, .iconst 1, 1, 0, 0, 0, []), (91, .istore_n 1, 1, 0, 0, 0, []), (92, .iconst 0, 1, 0, 0, 0, []), (93, .istore_n 2, 1, 0, 0, 0, []), (94, .iload_n 2, 1, 0, 0, 0, []), (95, .bipush 9, 2, 0, 0, 0, []), (97, .if_icmp .ge 33, 3, 78, 0, 0, []), (100, .iload_n 1, 1, 0, 0, 0, []), (101, .ifCond .eq 21, 3, 74, 0, 0, []), (104, .aload_n 0, 1, 0, 0, 0, []), (105, .getfield 35, 3, 8, 10, 0, [644, 0]), (108, .bipush 9, 2, 0, 0, 0, []), (110, .iload_n 2, 1, 0, 0, 0, []), (111, .imul, 1, 0, 0, 0, []), (112, .iload_n 2, 1, 0, 0, 0, []), (113, .iadd, 1, 0, 0, 0, []), (114, .iaload, 1, 0, 0, 0, []), (115, .ifCond .lt 7, 3, 74, 0, 0, []), (118, .iconst 1, 1, 0, 0, 0, []), (119, .goto 4, 3, 75, 0, 0, []), (122, .iconst 0, 1, 0, 0, 0, []), (123, .istore_n 1, 1, 0, 0, 0, []), (124, .iinc 2 1, 3, 0, 0, 0, []), (127, .goto (-33), 3, 58, 0, 0, []), (130, .iload_n 1, 1, 0, 0, 0, []), (131, .ireturn, 1, 0, 0, 0, [])]
-- 97: LetterDaysModel.bindsWeek
def am_t97 : List am_En := [(0, .iconst 0, 1, 0, 0, 0, []), (1, .istore_n 1, 1, 0, 0, 0, []), (2, .iconst 0, 1, 0, 0, 0, []), (3, .istore_n 2, 1, 0, 0, 0, []), (4, .iload_n 2, 1, 0, 0, 0, []), (5, .bipush 81, 2, 0, 0, 0, []), (7, .if_icmp .ge 135, 3, 81, 0, 0, []), (10, .iload_n 2, 1, 0, 0, 0, []), (11, .bipush 9, 2, 0, 0, 0, []), (13, .idiv, 1, 0, 0, 0, []), (14, .istore_n 3, 1, 0, 0, 0, []), (15, .iload_n 2, 1, 0, 0, 0, []), (16, .bipush 9, 2, 0, 0, 0, []), (18, .irem, 1, 0, 0, 0, []), (19, .istore 4, 2, 0, 0, 0, []), (21, .iload_n 3, 1, 0, 0, 0, []), (22, .iload 4, 2, 0, 0, 0, []), (24, .if_icmp .eq 112, 3, 79, 0, 0, []), (27, .aload_n 0, 1, 0, 0, 0, []), (28, .iload_n 3, 1, 0, 0, 0, []), (29, .invokevirtual 106, 3, 94, 1, 0, [785, 787, 29]), (32, .ifCond .eq 104, 3, 79, 0, 0, []), (35, .aload_n 0, 1, 0, 0, 0, []), (36, .iload 4, 2, 0, 0, 0, []), (38, .invokevirtual 106, 3, 94, 1, 0, [785, 787, 29]), (41, .ifCond .eq 95, 3, 79, 0, 0, []), (44, .aload_n 0, 1, 0, 0, 0, []), (45, .getfield 38, 3, 8, 11, 0, [645, 0]), (48, .iload_n 3, 1, 0, 0, 0, []), (49, .iaload, 1, 0, 0, 0, []), (50, .bipush (-9), 2, 0, 0, 0, []), (52, .if_icmp .eq 84, 3, 79, 0, 0, []), (55, .aload_n 0, 1, 0, 0, 0, []), (56, .getfield 38, 3, 8, 11, 0, [645, 0]), (59, .iload 4, 2, 0, 0, 0, []), (61, .iaload, 1, 0, 0, 0, []), (62, .bipush (-9), 2, 0, 0, 0, []), (64, .if_icmp .eq 72, 3, 79, 0, 0, []), (67, .aload_n 0, 1, 0, 0, 0, []), (68, .getfield 35, 3, 8, 10, 0, [644, 0]), (71, .iload_n 2, 1, 0, 0, 0, []), (72, .iaload, 1, 0, 0, 0, []), (73, .aload_n 0, 1, 0, 0, 0, []), (74, .getfield 38, 3, 8, 11, 0, [645, 0]), (77, .iload 4, 2, 0, 0, 0, []), (79, .iaload, 1, 0, 0, 0, []), (80, .isub, 1, 0, 0, 0, []), (81, .aload_n 0, 1, 0, 0, 0, []), (82, .getfield 38, 3, 8, 11, 0, [645, 0]), (85, .iload_n 3, 1, 0, 0, 0, []), (86, .iaload, 1, 0, 0, 0, []), (87, .iadd, 1, 0, 0, 0, []), (88, .bipush 7, 2, 0, 0, 0, []), (90, .irem, 1, 0, 0, 0, []), (91, .istore 5, 2, 0, 0, 0, []), (93, .iload 5, 2, 0, 0, 0, []), (95, .ifCond .ge 11, 3, 61, 0, 0, []), (98, .iload 5, 2, 0, 0, 0, []), (100, .bipush 7, 2, 0, 0, 0, []), (102, .iadd, 1, 0, 0, 0, []), (103, .goto 5, 3, 62, 0, 0, []), (106, .iload 5, 2, 0, 0, 0, []), (108, .istore 5, 2, 0, 0, 0, []), (110, .aload_n 0, 1, 0, 0, 0, []), (111, .getfield 35, 3, 8, 10, 0, [644, 0]), (114, .iload_n 2, 1, 0, 0, 0, []), (115, .dup2, 1, 0, 0, 0, []), (116, .iaload, 1, 0, 0, 0, []), (117, .iload 5, 2, 0, 0, 0, []), (119, .isub, 1, 0, 0, 0, []), (120, .iastore, 1, 0, 0, 0, []), (121, .iload_n 1, 1, 0, 0, 0, []), (122, .ifCond .ne 8, 3, 75, 0, 0, []), (125, .iload 5, 2, 0, 0, 0, []), (127, .ifCond .le 7, 3, 77, 0, 0, []), (130, .iconst 1, 1, 0, 0, 0, []), (131, .goto 4, 3, 78, 0, 0, []), (134, .iconst 0, 1, 0, 0, 0, []), (135, .istore_n 1, 1, 0, 0, 0, []), (136, .iinc 2 1, 3, 0, 0, 0, []), (139, .goto (-135), 3, 4, 0, 0, []), (142, .iload_n 1, 1, 0, 0, 0, []), (143, .ireturn, 1, 0, 0, 0, [])]
-- 98: LetterDaysModel.close
def am_t98 : List am_En := [(0, .aload_n 0, 1, 0, 0, 0, []), (1, .iload_n 1, 1, 0, 0, 0, []), (2, .invokevirtual 109, 3, 95, 1, 0, [768, 770, 25]), (5, .iload_n 2, 1, 0, 0, 0, []), (6, .bipush (-9), 2, 0, 0, 0, []), (8, .if_icmp .eq 20, 3, 17, 0, 0, []), (11, .aload_n 0, 1, 0, 0, 0, []), (12, .bipush 8, 2, 0, 0, 0, []), (14, .iload_n 2, 1, 0, 0, 0, []), (15, .iload_n 3, 1, 0, 0, 0, []), (16, .invokevirtual 93, 3, 91, 3, 0, [773, 775, 26]), (19, .aload_n 0, 1, 0, 0, 0, []), (20, .iload_n 2, 1, 0, 0, 0, []), (21, .bipush 8, 2, 0, 0, 0, []), (23, .iload_n 3, 1, 0, 0, 0, []), (24, .ineg, 1, 0, 0, 0, []), (25, .invokevirtual 93, 3, 91, 3, 0, [773, 775, 26]), (28, .aload_n 0, 1, 0, 0, 0, []), (29, .getfield 97, 3, 8, 12, 0, [646, 1]), (32, .istore 4, 2, 0, 0, 0, []), (34, .iconst 1, 1, 0, 0, 0, []), (35, .istore 5, 2, 0, 0, 0, []), (37, .iload 4, 2, 0, 0, 0, []), (39, .ifCond .eq 36, 3, 39, 0, 0, []), (42, .iload 5, 2, 0, 0, 0, []), (44, .ifCond .eq 31, 3, 39, 0, 0, []), (47, .aload_n 0, 1, 0, 0, 0, []), (48, .invokevirtual 112, 3, 96, 0, 0, [781, 783, 28]), (51, .istore 4, 2, 0, 0, 0, []), (53, .iload 4, 2, 0, 0, 0, []), (55, .ifCond .eq 14, 3, 36, 0, 0, []), (58, .aload_n 0, 1, 0, 0, 0, []), (59, .invokevirtual 116, 3, 97, 0, 0, [789, 791, 30]), (62, .ifCond .eq 7, 3, 36, 0, 0, []), (65, .iconst 1, 1, 0, 0, 0, []), (66, .goto 4, 3, 37, 0, 0, []), (69, .iconst 0, 1, 0, 0, 0, []), (70, .istore 5, 2, 0, 0, 0, []), (72, .goto (-35), 3, 22, 0, 0, []), (75, .iload 4, 2, 0, 0, 0, []), (77, .ireturn, 1, 0, 0, 0, [])]
-- 99: LetterDaysModel.closeNow
def am_t99 : List am_En := [(0, .aload_n 0, 1, 0, 0, 0, []), (1, .aload_n 0, 1, 0, 0, 0, []), (2, .invokevirtual 119, 3, 93, 0, 0, [760, 762, 23]), (5, .bipush (-9), 2, 0, 0, 0, []), (7, .iconst 0, 1, 0, 0, 0, []), (8, .invokevirtual 123, 3, 98, 3, 0, [764, 766, 24]), (11, .ireturn, 1, 0, 0, 0, [])]
-- 100: LetterDaysModel.earliest
def am_t100 : List am_En := [(0, .aload_n 0, 1, 0, 0, 0, []), (1, .getfield 35, 3, 8, 10, 0, [644, 0]), (4, .bipush 9, 2, 0, 0, 0, []), (6, .iload_n 1, 1, 0, 0, 0, []), (7, .imul, 1, 0, 0, 0, []), (8, .bipush 8, 2, 0, 0, 0, []), (10, .iadd, 1, 0, 0, 0, []), (11, .iaload, 1, 0, 0, 0, []), (12, .ineg, 1, 0, 0, 0, []), (13, .ireturn, 1, 0, 0, 0, [])]
-- 101: LetterDaysModel.latest
def am_t101 : List am_En := [(0, .aload_n 0, 1, 0, 0, 0, []), (1, .getfield 35, 3, 8, 10, 0, [644, 0]), (4, .bipush 72, 2, 0, 0, 0, []), (6, .iload_n 1, 1, 0, 0, 0, []), (7, .iadd, 1, 0, 0, 0, []), (8, .iaload, 1, 0, 0, 0, []), (9, .ireturn, 1, 0, 0, 0, [])]
-- 102: LetterDaysModel.agree
def am_t102 : List am_En := [(0, .aload_n 0, 1, 0, 0, 0, []), (1, .invokevirtual 126, 3, 99, 0, 0, [756, 758, 22]), (4, .ifCond .eq 7, 3, 5, 0, 0, []), (7, .iconst 1, 1, 0, 0, 0, []), (8, .goto 4, 3, 6, 0, 0, []), (11, .iconst 0, 1, 0, 0, 0, []), (12, .ireturn, 1, 0, 0, 0, [])]
-- 103: LetterDaysModel.day
def am_t103 : List am_En := [(0, .aload_n 0, 1, 0, 0, 0, []), (1, .iload_n 1, 1, 0, 0, 0, []), (2, .invokevirtual 71, 3, 78, 1, 0, [704, 706, 16]), (5, .ifCond .ne 5, 3, 6, 0, 0, []), (8, .iconst (-1), 1, 0, 0, 0, []), (9, .ireturn, 1, 0, 0, 0, []), (10, .iload_n 2, 1, 0, 0, 0, []), (11, .iconst 0, 1, 0, 0, 0, []), (12, .iconst 1, 1, 0, 0, 0, []), (13, .invokestatic 60, 3, 77, 3, 0, [697, 698]), (16, .ifCond .ne 6, 3, 13, 0, 0, []), (19, .bipush (-2), 2, 0, 0, 0, []), (21, .ireturn, 1, 0, 0, 0, []), (22, .aload_n 0, 1, 0, 0, 0, []), (23, .invokevirtual 126, 3, 99, 0, 0, [756, 758, 22]), (26, .ifCond .ne 6, 3, 18, 0, 0, []), (29, .bipush (-3), 2, 0, 0, 0, []), (31, .ireturn, 1, 0, 0, 0, []), (32, .iload_n 2, 1, 0, 0, 0, []), (33, .ifCond .ne 11, 3, 24, 0, 0, []), (36, .aload_n 0, 1, 0, 0, 0, []), (37, .iload_n 1, 1, 0, 0, 0, []), (38, .invokevirtual 129, 3, 100, 1, 0, [797, 799, 31]), (41, .goto 8, 3, 27, 0, 0, []), (44, .aload_n 0, 1, 0, 0, 0, []), (45, .iload_n 1, 1, 0, 0, 0, []), (46, .invokevirtual 132, 3, 101, 1, 0, [801, 803, 32]), (49, .ireturn, 1, 0, 0, 0, [])]
-- 104: LetterDaysModel.can
def am_t104 : List am_En := [(0, .aload_n 0, 1, 0, 0, 0, []), (1, .iload_n 1, 1, 0, 0, 0, []), (2, .invokevirtual 71, 3, 78, 1, 0, [704, 706, 16]), (5, .ifCond .ne 5, 3, 6, 0, 0, []), (8, .iconst (-1), 1, 0, 0, 0, []), (9, .ireturn, 1, 0, 0, 0, []), (10, .iload_n 2, 1, 0, 0, 0, []), (11, .iconst 0, 1, 0, 0, 0, []), (12, .sipush 199, 3, 0, 0, 0, []), (15, .invokestatic 60, 3, 77, 3, 0, [697, 698]), (18, .ifCond .ne 6, 3, 13, 0, 0, []), (21, .bipush (-2), 2, 0, 0, 0, []), (23, .ireturn, 1, 0, 0, 0, []), (24, .aload_n 0, 1, 0, 0, 0, []), (25, .invokevirtual 126, 3, 99, 0, 0, [756, 758, 22]), (28, .ifCond .ne 6, 3, 18, 0, 0, []), (31, .bipush (-3), 2, 0, 0, 0, []), (33, .ireturn, 1, 0, 0, 0, []), (34, .aload_n 0, 1, 0, 0, 0, []), (35, .aload_n 0, 1, 0, 0, 0, []), (36, .invokevirtual 119, 3, 93, 0, 0, [760, 762, 23]), (39, .iload_n 1, 1, 0, 0, 0, []), (40, .iload_n 2, 1, 0, 0, 0, []), (41, .invokevirtual 123, 3, 98, 3, 0, [764, 766, 24]), (44, .ifCond .eq 7, 3, 27, 0, 0, []), (47, .iconst 1, 1, 0, 0, 0, []), (48, .goto 4, 3, 28, 0, 0, []), (51, .iconst 0, 1, 0, 0, 0, []), (52, .ireturn, 1, 0, 0, 0, [])]
-- 105: LetterDaysModel.left
def am_t105 : List am_En := [(0, .aload_n 0, 1, 0, 0, 0, []), (1, .iload_n 1, 1, 0, 0, 0, []), (2, .invokevirtual 71, 3, 78, 1, 0, [704, 706, 16]), (5, .ifCond .ne 5, 3, 6, 0, 0, []), (8, .iconst (-1), 1, 0, 0, 0, []), (9, .ireturn, 1, 0, 0, 0, []), (10, .aload_n 0, 1, 0, 0, 0, []), (11, .invokevirtual 126, 3, 99, 0, 0, [756, 758, 22]), (14, .ifCond .ne 6, 3, 11, 0, 0, []), (17, .bipush (-3), 2, 0, 0, 0, []), (19, .ireturn, 1, 0, 0, 0, []), (20, .aload_n 0, 1, 0, 0, 0, []), (21, .invokevirtual 119, 3, 93, 0, 0, [760, 762, 23]), (24, .istore_n 2, 1, 0, 0, 0, []), (25, .iconst 0, 1, 0, 0, 0, []), (26, .istore_n 3, 1, 0, 0, 0, []), (27, .iconst 0, 1, 0, 0, 0, []), (28, .istore 4, 2, 0, 0, 0, []), (30, .iload 4, 2, 0, 0, 0, []), (32, .sipush 200, 3, 0, 0, 0, []), (35, .if_icmp .ge 28, 3, 35, 0, 0, []), (38, .iload_n 3, 1, 0, 0, 0, []), (39, .aload_n 0, 1, 0, 0, 0, []), (40, .iload_n 2, 1, 0, 0, 0, []), (41, .iload_n 1, 1, 0, 0, 0, []), (42, .iload 4, 2, 0, 0, 0, []), (44, .invokevirtual 123, 3, 98, 3, 0, [764, 766, 24]), (47, .ifCond .eq 7, 3, 30, 0, 0, []), (50, .iconst 1, 1, 0, 0, 0, []), (51, .goto 4, 3, 31, 0, 0, []), (54, .iconst 0, 1, 0, 0, 0, []), (55, .iadd, 1, 0, 0, 0, []), (56, .istore_n 3, 1, 0, 0, 0, []), (57, .iinc 4 1, 3, 0, 0, 0, []), (60, .goto (-30), 3, 18, 0, 0, []), (63, .iload_n 3, 1, 0, 0, 0, []), (64, .ireturn, 1, 0, 0, 0, [])]
-- 106: LetterDaysModel.findGaps
def am_t106 : List am_En := [(0, .aload_n 0, 1, 0, 0, 0, []), (1, .invokevirtual 119, 3, 93, 0, 0, [760, 762, 23]), (4, .istore_n 2, 1, 0, 0, 0, []), (5, .aload_n 0, 1, 0, 0, 0, []), (6, .invokevirtual 126, 3, 99, 0, 0, [756, 758, 22]), (9, .pop, 1, 0, 0, 0, []), (10, .aload_n 0, 1, 0, 0, 0, []), (11, .iload_n 1, 1, 0, 0, 0, []), (12, .invokevirtual 129, 3, 100, 1, 0, [797, 799, 31]), (15, .istore_n 3, 1, 0, 0, 0, []), (16, .aload_n 0, 1, 0, 0, 0, []), (17, .iload_n 1, 1, 0, 0, 0, []), (18, .invokevirtual 132, 3, 101, 1, 0, [801, 803, 32]), (21, .istore 4, 2, 0, 0, 0, []), (23, .iconst 0, 1, 0, 0, 0, []), (24, .istore 5, 2, 0, 0, 0, []), (26, .iload 5, 2, 0, 0, 0, []), (28, .bipush 8, 2, 0, 0, 0, []), (30, .if_icmp .ge 18, 3, 26, 0, 0, []), (33, .aload_n 0, 1, 0, 0, 0, []), (34, .getfield 41, 3, 8, 13, 0, [647, 0]), (37, .iload 5, 2, 0, 0, 0, []), (39, .ldc 101, 2, 0, 0, 100000, [772]), (41, .iastore, 1, 0, 0, 0, []), (42, .iinc 5 1, 3, 0, 0, 0, []), (45, .goto (-19), 3, 16, 0, 0, []), (48, .iload_n 3, 1, 0, 0, 0, []), (49, .istore 5, 2, 0, 0, 0, []), (51, .iload 5, 2, 0, 0, 0, []), (53, .iload 4, 2, 0, 0, 0, []), (55, .if_icmp .gt 80, 3, 69, 0, 0, []), (58, .aload_n 0, 1, 0, 0, 0, []), (59, .iload_n 2, 1, 0, 0, 0, []), (60, .iload_n 1, 1, 0, 0, 0, []), (61, .iload 5, 2, 0, 0, 0, []), (63, .invokevirtual 123, 3, 98, 3, 0, [764, 766, 24]), (66, .ifCond .eq 63, 3, 67, 0, 0, []), (69, .iconst 0, 1, 0, 0, 0, []), (70, .istore 6, 2, 0, 0, 0, []), (72, .iload 6, 2, 0, 0, 0, []), (74, .aload_n 0, 1, 0, 0, 0, []), (75, .getfield 56, 3, 8, 0, 0, [634, 0]), (78, .if_icmp .ge 51, 3, 67, 0, 0, []), (81, .aload_n 0, 1, 0, 0, 0, []), (82, .iload 6, 2, 0, 0, 0, []), (84, .invokevirtual 129, 3, 100, 1, 0, [797, 799, 31]), (87, .iload 5, 2, 0, 0, 0, []), (89, .isub, 1, 0, 0, 0, []), (90, .istore 7, 2, 0, 0, 0, []), (92, .aload_n 0, 1, 0, 0, 0, []), (93, .getfield 41, 3, 8, 13, 0, [647, 0]), (96, .iload 6, 2, 0, 0, 0, []), (98, .iload 7, 2, 0, 0, 0, []), (100, .aload_n 0, 1, 0, 0, 0, []), (101, .getfield 41, 3, 8, 13, 0, [647, 0]), (104, .iload 6, 2, 0, 0, 0, []), (106, .iaload, 1, 0, 0, 0, []), (107, .if_icmp .ge 8, 3, 60, 0, 0, []), (110, .iload 7, 2, 0, 0, 0, []), (112, .goto 10, 3, 64, 0, 0, []), (115, .aload_n 0, 1, 0, 0, 0, []), (116, .getfield 41, 3, 8, 13, 0, [647, 0]), (119, .iload 6, 2, 0, 0, 0, []), (121, .iaload, 1, 0, 0, 0, []), (122, .iastore, 1, 0, 0, 0, []), (123, .iinc 6 1, 3, 0, 0, 0, []), (126, .goto (-54), 3, 39, 0, 0, []), (129, .iinc 5 1, 3, 0, 0, 0, []), (132, .goto (-81), 3, 28, 0, 0, []), (135, .return_, 1, 0, 0, 0, [])]
-- 107: LetterDaysModel.gap
def am_t107 : List am_En := [(0, .aload_n 0, 1, 0, 0, 0, []), (1, .iload_n 1, 1, 0, 0, 0, []), (2, .invokevirtual 71, 3, 78, 1, 0, [704, 706, 16]), (5, .ifCond .eq 16, 3, 11, 0, 0, []), (8, .aload_n 0, 1, 0, 0, 0, []), (9, .iload_n 2, 1, 0, 0, 0, []), (10, .invokevirtual 71, 3, 78, 1, 0, [704, 706, 16]), (13, .ifCond .eq 8, 3, 11, 0, 0, []), (16, .iload_n 1, 1, 0, 0, 0, []), (17, .iload_n 2, 1, 0, 0, 0, []), (18, .if_icmp .ne 5, 3, 13, 0, 0, []), (21, .iconst (-1), 1, 0, 0, 0, []), (22, .ireturn, 1, 0, 0, 0, []), (23, .aload_n 0, 1, 0, 0, 0, []), (24, .invokevirtual 126, 3, 99, 0, 0, [756, 758, 22]), (27, .ifCond .ne 6, 3, 18, 0, 0, []), (30, .bipush (-3), 2, 0, 0, 0, []), (32, .ireturn, 1, 0, 0, 0, []), (33, .aload_n 0, 1, 0, 0, 0, []), (34, .iload_n 1, 1, 0, 0, 0, []), (35, .invokevirtual 135, 3, 106, 1, 0, [817, 819, 33]), (38, .aload_n 0, 1, 0, 0, 0, []), (39, .getfield 41, 3, 8, 13, 0, [647, 0]), (42, .iload_n 2, 1, 0, 0, 0, []), (43, .iaload, 1, 0, 0, 0, []), (44, .sipush 1000, 3, 0, 0, 0, []), (47, .iadd, 1, 0, 0, 0, []), (48, .ireturn, 1, 0, 0, 0, [])]
-- 108: LetterDaysModel.findAhead
def am_t108 : List am_En := [(0, .iconst 0, 1, 0, 0, 0, []), (1, .istore_n 1, 1, 0, 0, 0, []), (2, .iload_n 1, 1, 0, 0, 0, []), (3, .bipush 8, 2, 0, 0, 0, []), (5, .if_icmp .ge 16, 3, 12, 0, 0, []), (8, .aload_n 0, 1, 0, 0, 0, []), (9, .getfield 44, 3, 8, 14, 0, [648, 0]), (12, .iload_n 1, 1, 0, 0, 0, []), (13, .iconst 0, 1, 0, 0, 0, []), (14, .iastore, 1, 0, 0, 0, []), (15, .iinc 1 1, 3, 0, 0, 0, []), (18, .goto (-16), 3, 2, 0, 0, []), (21, .iconst 0, 1, 0, 0, 0, []), (22, .istore_n 1, 1, 0, 0, 0, []), (23, .iload_n 1, 1, 0, 0, 0, []), (24, .aload_n 0, 1, 0, 0, 0, []), (25, .getfield 56, 3, 8, 0, 0, [634, 0]), (28, .if_icmp .ge 60, 3, 51, 0, 0, []), (31, .aload_n 0, 1, 0, 0, 0, []), (32, .iload_n 1, 1, 0, 0, 0, []), (33, .invokevirtual 135, 3, 106, 1, 0, [817, 819, 33]), (36, .iconst 0, 1, 0, 0, 0, []), (37, .istore_n 2, 1, 0, 0, 0, []), (38, .iload_n 2, 1, 0, 0, 0, []), (39, .aload_n 0, 1, 0, 0, 0, []), (40, .getfield 56, 3, 8, 0, 0, [634, 0]), (43, .if_icmp .ge 39, 3, 49, 0, 0, []), (46, .aload_n 0, 1, 0, 0, 0, []), (47, .getfield 44, 3, 8, 14, 0, [648, 0]), (50, .iload_n 2, 1, 0, 0, 0, []), (51, .dup2, 1, 0, 0, 0, []), (52, .iaload, 1, 0, 0, 0, []), (53, .iload_n 2, 1, 0, 0, 0, []), (54, .iload_n 1, 1, 0, 0, 0, []), (55, .if_icmp .eq 18, 3, 44, 0, 0, []), (58, .aload_n 0, 1, 0, 0, 0, []), (59, .getfield 41, 3, 8, 13, 0, [647, 0]), (62, .iload_n 2, 1, 0, 0, 0, []), (63, .iaload, 1, 0, 0, 0, []), (64, .ifCond .le 9, 3, 44, 0, 0, []), (67, .iconst 1, 1, 0, 0, 0, []), (68, .iload_n 1, 1, 0, 0, 0, []), (69, .ishl, 1, 0, 0, 0, []), (70, .goto 4, 3, 45, 0, 0, []), (73, .iconst 0, 1, 0, 0, 0, []), (74, .ior, 1, 0, 0, 0, []), (75, .iastore, 1, 0, 0, 0, []), (76, .iinc 2 1, 3, 0, 0, 0, []), (79, .goto (-41), 3, 23, 0, 0, []), (82, .iinc 1 1, 3, 0, 0, 0, []), (85, .goto (-62), 3, 14, 0, 0, []), (88, .return_, 1, 0, 0, 0, [])]
-- 109: LetterDaysModel.ahead
def am_t109 : List am_En := [(0, .aload_n 0, 1, 0, 0, 0, []), (1, .iload_n 1, 1, 0, 0, 0, []), (2, .invokevirtual 71, 3, 78, 1, 0, [704, 706, 16]), (5, .ifCond .ne 5, 3, 6, 0, 0, []), (8, .iconst (-1), 1, 0, 0, 0, []), (9, .ireturn, 1, 0, 0, 0, []), (10, .iload_n 2, 1, 0, 0, 0, []), (11, .iconst 0, 1, 0, 0, 0, []), (12, .iconst 1, 1, 0, 0, 0, []), (13, .invokestatic 60, 3, 77, 3, 0, [697, 698]), (16, .ifCond .ne 6, 3, 13, 0, 0, []), (19, .bipush (-2), 2, 0, 0, 0, []), (21, .ireturn, 1, 0, 0, 0, []), (22, .aload_n 0, 1, 0, 0, 0, []), (23, .invokevirtual 126, 3, 99, 0, 0, [756, 758, 22]), (26, .ifCond .ne 6, 3, 18, 0, 0, []), (29, .bipush (-3), 2, 0, 0, 0, []), (31, .ireturn, 1, 0, 0, 0, []), (32, .aload_n 0, 1, 0, 0, 0, []), (33, .invokevirtual 138, 3, 108, 0, 0, [825, 827, 34]), (36, .iconst 0, 1, 0, 0, 0, []), (37, .istore_n 3, 1, 0, 0, 0, []), (38, .iconst 0, 1, 0, 0, 0, []), (39, .istore 4, 2, 0, 0, 0, []), (41, .iload 4, 2, 0, 0, 0, []), (43, .aload_n 0, 1, 0, 0, 0, []), (44, .getfield 56, 3, 8, 0, 0, [634, 0]), (47, .if_icmp .ge 26, 3, 43, 0, 0, []), (50, .iload_n 3, 1, 0, 0, 0, []), (51, .aload_n 0, 1, 0, 0, 0, []), (52, .getfield 44, 3, 8, 14, 0, [648, 0]), (55, .iload 4, 2, 0, 0, 0, []), (57, .iaload, 1, 0, 0, 0, []), (58, .iload_n 1, 1, 0, 0, 0, []), (59, .ishr, 1, 0, 0, 0, []), (60, .iconst 1, 1, 0, 0, 0, []), (61, .iand, 1, 0, 0, 0, []), (62, .iload 4, 2, 0, 0, 0, []), (64, .ishl, 1, 0, 0, 0, []), (65, .ior, 1, 0, 0, 0, []), (66, .istore_n 3, 1, 0, 0, 0, []), (67, .iinc 4 1, 3, 0, 0, 0, []), (70, .goto (-29), 3, 24, 0, 0, []), (73, .iload_n 2, 1, 0, 0, 0, []), (74, .ifCond .ne 12, 3, 50, 0, 0, []), (77, .aload_n 0, 1, 0, 0, 0, []), (78, .getfield 44, 3, 8, 14, 0, [648, 0]), (81, .iload_n 1, 1, 0, 0, 0, []), (82, .iaload, 1, 0, 0, 0, []), (83, .goto 4, 3, 51, 0, 0, []), (86, .iload_n 3, 1, 0, 0, 0, []), (87, .ireturn, 1, 0, 0, 0, [])]
-- 110: LetterDaysModel.orders
def am_t110 : List am_En := [(0, .aload_n 0, 1, 0, 0, 0, []), (1, .invokevirtual 126, 3, 99, 0, 0, [756, 758, 22]), (4, .ifCond .ne 6, 3, 5, 0, 0, []), (7, .bipush (-3), 2, 0, 0, 0, []), (9, .ireturn, 1, 0, 0, 0, []), (10, .aload_n 0, 1, 0, 0, 0, []), (11, .invokevirtual 138, 3, 108, 0, 0, [825, 827, 34]), (14, .aload_n 0, 1, 0, 0, 0, []), (15, .getfield 47, 3, 8, 15, 0, [649, 0]), (18, .iconst 0, 1, 0, 0, 0, []), (19, .iconst 1, 1, 0, 0, 0, []), (20, .iastore, 1, 0, 0, 0, []), (21, .iconst 1, 1, 0, 0, 0, []), (22, .aload_n 0, 1, 0, 0, 0, []), (23, .getfield 56, 3, 8, 0, 0, [634, 0]), (26, .ishl, 1, 0, 0, 0, []), (27, .iconst 1, 1, 0, 0, 0, []), (28, .isub, 1, 0, 0, 0, []), (29, .istore_n 1, 1, 0, 0, 0, []), (30, .iconst 1, 1, 0, 0, 0, []), (31, .istore_n 2, 1, 0, 0, 0, []), (32, .iload_n 2, 1, 0, 0, 0, []), (33, .iload_n 1, 1, 0, 0, 0, []), (34, .if_icmp .gt 91, 3, 80, 0, 0, []), (37, .aload_n 0, 1, 0, 0, 0, []), (38, .getfield 47, 3, 8, 15, 0, [649, 0]), (41, .iload_n 2, 1, 0, 0, 0, []), (42, .iconst 0, 1, 0, 0, 0, []), (43, .iastore, 1, 0, 0, 0, []), (44, .iconst 0, 1, 0, 0, 0, []), (45, .istore_n 3, 1, 0, 0, 0, []), (46, .iload_n 3, 1, 0, 0, 0, []), (47, .aload_n 0, 1, 0, 0, 0, []), (48, .getfield 56, 3, 8, 0, 0, [634, 0]), (51, .if_icmp .ge 68, 3, 78, 0, 0, []), (54, .iload_n 2, 1, 0, 0, 0, []), (55, .iload_n 3, 1, 0, 0, 0, []), (56, .ishr, 1, 0, 0, 0, []), (57, .iconst 1, 1, 0, 0, 0, []), (58, .iand, 1, 0, 0, 0, []), (59, .iconst 1, 1, 0, 0, 0, []), (60, .if_icmp .ne 20, 3, 53, 0, 0, []), (63, .aload_n 0, 1, 0, 0, 0, []), (64, .getfield 44, 3, 8, 14, 0, [648, 0]), (67, .iload_n 3, 1, 0, 0, 0, []), (68, .iaload, 1, 0, 0, 0, []), (69, .iload_n 2, 1, 0, 0, 0, []), (70, .iconst (-1), 1, 0, 0, 0, []), (71, .ixor, 1, 0, 0, 0, []), (72, .iand, 1, 0, 0, 0, []), (73, .ifCond .ne 7, 3, 53, 0, 0, []), (76, .iconst 1, 1, 0, 0, 0, []), (77, .goto 4, 3, 54, 0, 0, []), (80, .iconst 0, 1, 0, 0, 0, []), (81, .istore 4, 2, 0, 0, 0, []), (83, .aload_n 0, 1, 0, 0, 0, []), (84, .getfield 47, 3, 8, 15, 0, [649, 0]), (87, .iload_n 2, 1, 0, 0, 0, []), (88, .dup2, 1, 0, 0, 0, []), (89, .iaload, 1, 0, 0, 0, []), (90, .iload 4, 2, 0, 0, 0, []), (92, .ifCond .eq 18, 3, 73, 0, 0, []), (95, .aload_n 0, 1, 0, 0, 0, []), (96, .getfield 47, 3, 8, 15, 0, [649, 0]), (99, .iload_n 2, 1, 0, 0, 0, []), (100, .iconst 1, 1, 0, 0, 0, []), (101, .iload_n 3, 1, 0, 0, 0, []), (102, .ishl, 1, 0, 0, 0, []), (103, .iconst (-1), 1, 0, 0, 0, []), (104, .ixor, 1, 0, 0, 0, []), (105, .iand, 1, 0, 0, 0, []), (106, .iaload, 1, 0, 0, 0, []), (107, .goto 4, 3, 74, 0, 0, []), (110, .iconst 0, 1, 0, 0, 0, []), (111, .iadd, 1, 0, 0, 0, []), (112, .iastore, 1, 0, 0, 0, []), (113, .iinc 3 1, 3, 0, 0, 0, []), (116, .goto (-70), 3, 31, 0, 0, []), (119, .iinc 2 1, 3, 0, 0, 0, []), (122, .goto (-90), 3, 21, 0, 0, []), (125, .aload_n 0, 1, 0, 0, 0, []), (126, .getfield 47, 3, 8, 15, 0, [649, 0]), (129, .iload_n 1, 1, 0, 0, 0, []), (130, .iaload, 1, 0, 0, 0, []), (131, .ireturn, 1, 0, 0, 0, [])]
-- 111: LetterDaysModel.order
def am_t111 : List am_En := [(0, .iload_n 1, 1, 0, 0, 0, []), (1, .iconst 0, 1, 0, 0, 0, []), (2, .bipush 7, 2, 0, 0, 0, []), (4, .invokestatic 60, 3, 77, 3, 0, [697, 698]), (7, .ifCond .ne 6, 3, 7, 0, 0, []), (10, .bipush (-2), 2, 0, 0, 0, []), (12, .ireturn, 1, 0, 0, 0, []), (13, .aload_n 0, 1, 0, 0, 0, []), (14, .invokevirtual 126, 3, 99, 0, 0, [756, 758, 22]), (17, .ifCond .ne 6, 3, 12, 0, 0, []), (20, .bipush (-3), 2, 0, 0, 0, []), (22, .ireturn, 1, 0, 0, 0, []), (23, .iload_n 1, 1, 0, 0, 0, []), (24, .aload_n 0, 1, 0, 0, 0, []), (25, .getfield 56, 3, 8, 0, 0, [634, 0]), (28, .if_icmp .lt 6, 3, 18, 0, 0, []), (31, .bipush (-9), 2, 0, 0, 0, []), (33, .ireturn, 1, 0, 0, 0, []), (34, .aload_n 0, 1, 0, 0, 0, []), (35, .invokevirtual 138, 3, 108, 0, 0, [825, 827, 34]), (38, .iconst 0, 1, 0, 0, 0, []), (39, .istore_n 2, 1, 0, 0, 0, []), (40, .bipush (-9), 2, 0, 0, 0, []), (42, .istore_n 3, 1, 0, 0, 0, []), (43, .iconst 0, 1, 0, 0, 0, []), (44, .istore 4, 2, 0, 0, 0, []), (46, .iload 4, 2, 0, 0, 0, []), (48, .iload_n 1, 1, 0, 0, 0, []), (49, .if_icmp .gt 45, 3, 57, 0, 0, []), (52, .iconst 0, 1, 0, 0, 0, []), (53, .istore_n 3, 1, 0, 0, 0, []), (54, .iload_n 2, 1, 0, 0, 0, []), (55, .iload_n 3, 1, 0, 0, 0, []), (56, .ishr, 1, 0, 0, 0, []), (57, .iconst 1, 1, 0, 0, 0, []), (58, .iand, 1, 0, 0, 0, []), (59, .iconst 1, 1, 0, 0, 0, []), (60, .if_icmp .eq 16, 3, 47, 0, 0, []), (63, .aload_n 0, 1, 0, 0, 0, []), (64, .getfield 44, 3, 8, 14, 0, [648, 0]), (67, .iload_n 3, 1, 0, 0, 0, []), (68, .iaload, 1, 0, 0, 0, []), (69, .iload_n 2, 1, 0, 0, 0, []), (70, .iconst (-1), 1, 0, 0, 0, []), (71, .ixor, 1, 0, 0, 0, []), (72, .iand, 1, 0, 0, 0, []), (73, .ifCond .eq 9, 3, 49, 0, 0, []), (76, .iinc 3 1, 3, 0, 0, 0, []), (79, .goto (-25), 3, 31, 0, 0, []), (82, .iload_n 2, 1, 0, 0, 0, []), (83, .iconst 1, 1, 0, 0, 0, []), (84, .iload_n 3, 1, 0, 0, 0, []), (85, .ishl, 1, 0, 0, 0, []), (86, .ior, 1, 0, 0, 0, []), (87, .istore_n 2, 1, 0, 0, 0, []), (88, .iinc 4 1, 3, 0, 0, 0, []), (91, .goto (-45), 3, 26, 0, 0, []), (94, .iload_n 3, 1, 0, 0, 0, []), (95, .ireturn, 1, 0, 0, 0, [])]
-- 112: LetterDaysModel.manyOf
def am_t112 : List am_En := [(0, .iconst 0, 1, 0, 0, 0, []), (1, .istore_n 1, 1, 0, 0, 0, []), (2, .iload_n 0, 1, 0, 0, 0, []), (3, .istore_n 2, 1, 0, 0, 0, []), (4, .iload_n 2, 1, 0, 0, 0, []), (5, .ifCond .le 16, 3, 17, 0, 0, []), (8, .iload_n 1, 1, 0, 0, 0, []), (9, .iload_n 2, 1, 0, 0, 0, []), (10, .iconst 1, 1, 0, 0, 0, []), (11, .iand, 1, 0, 0, 0, []), (12, .iadd, 1, 0, 0, 0, []), (13, .istore_n 1, 1, 0, 0, 0, []), (14, .iload_n 2, 1, 0, 0, 0, []), (15, .iconst 1, 1, 0, 0, 0, []), (16, .ishr, 1, 0, 0, 0, []), (17, .istore_n 2, 1, 0, 0, 0, []), (18, .goto (-14), 3, 4, 0, 0, []), (21, .iload_n 1, 1, 0, 0, 0, []), (22, .ireturn, 1, 0, 0, 0, [])]
-- 113: LetterDaysModel.weightBy
def am_t113 : List am_En := [(0, .iconst 0, 1, 0, 0, 0, []), (1, .istore_n 2, 1, 0, 0, 0, []), (2, .iconst 0, 1, 0, 0, 0, []), (3, .istore_n 3, 1, 0, 0, 0, []), (4, .iload_n 3, 1, 0, 0, 0, []), (5, .aload_n 0, 1, 0, 0, 0, []), (6, .getfield 64, 3, 8, 3, 0, [637, 0]), (9, .if_icmp .ge 31, 3, 26, 0, 0, []), (12, .iload_n 2, 1, 0, 0, 0, []), (13, .iload_n 1, 1, 0, 0, 0, []), (14, .iload_n 3, 1, 0, 0, 0, []), (15, .ishr, 1, 0, 0, 0, []), (16, .iconst 1, 1, 0, 0, 0, []), (17, .iand, 1, 0, 0, 0, []), (18, .iconst 1, 1, 0, 0, 0, []), (19, .if_icmp .ne 12, 3, 21, 0, 0, []), (22, .aload_n 0, 1, 0, 0, 0, []), (23, .getfield 28, 3, 8, 8, 0, [642, 0]), (26, .iload_n 3, 1, 0, 0, 0, []), (27, .iaload, 1, 0, 0, 0, []), (28, .goto 4, 3, 22, 0, 0, []), (31, .iconst 0, 1, 0, 0, 0, []), (32, .iadd, 1, 0, 0, 0, []), (33, .istore_n 2, 1, 0, 0, 0, []), (34, .iinc 3 1, 3, 0, 0, 0, []), (37, .goto (-33), 3, 4, 0, 0, []), (40, .iload_n 2, 1, 0, 0, 0, []), (41, .ireturn, 1, 0, 0, 0, [])]
-- 114: LetterDaysModel.knot
def am_t114 : List am_En := [(0, .iload_n 1, 1, 0, 0, 0, []), (1, .iconst 0, 1, 0, 0, 0, []), (2, .iconst 1, 1, 0, 0, 0, []), (3, .invokestatic 60, 3, 77, 3, 0, [697, 698]), (6, .ifCond .ne 6, 3, 7, 0, 0, []), (9, .bipush (-2), 2, 0, 0, 0, []), (11, .ireturn, 1, 0, 0, 0, []), (12, .aload_n 0, 1, 0, 0, 0, []), (13, .invokevirtual 119, 3, 93, 0, 0, [760, 762, 23]), (16, .istore_n 2, 1, 0, 0, 0, []), (17, .bipush (-9), 2, 0, 0, 0, []), (19, .istore_n 3, 1, 0, 0, 0, []), (20, .iconst 0, 1, 0, 0, 0, []), (21, .istore 4, 2, 0, 0, 0, []), (23, .iload 4, 2, 0, 0, 0, []), (25, .iload_n 2, 1, 0, 0, 0, []), (26, .if_icmp .gt 95, 3, 65, 0, 0, []), (29, .iload_n 3, 1, 0, 0, 0, []), (30, .bipush (-9), 2, 0, 0, 0, []), (32, .if_icmp .ne 7, 3, 22, 0, 0, []), (35, .iconst (-1), 1, 0, 0, 0, []), (36, .goto 15, 3, 29, 0, 0, []), (39, .aload_n 0, 1, 0, 0, 0, []), (40, .iload 4, 2, 0, 0, 0, []), (42, .invokevirtual 141, 3, 113, 1, 0, [841, 843, 35]), (45, .aload_n 0, 1, 0, 0, 0, []), (46, .iload_n 3, 1, 0, 0, 0, []), (47, .invokevirtual 141, 3, 113, 1, 0, [841, 843, 35]), (50, .isub, 1, 0, 0, 0, []), (51, .istore 5, 2, 0, 0, 0, []), (53, .iload 4, 2, 0, 0, 0, []), (55, .iload_n 2, 1, 0, 0, 0, []), (56, .iconst (-1), 1, 0, 0, 0, []), (57, .ixor, 1, 0, 0, 0, []), (58, .iand, 1, 0, 0, 0, []), (59, .ifCond .ne 29, 3, 47, 0, 0, []), (62, .iload 5, 2, 0, 0, 0, []), (64, .ifCond .lt 20, 3, 45, 0, 0, []), (67, .iload 5, 2, 0, 0, 0, []), (69, .ifCond .ne 19, 3, 47, 0, 0, []), (72, .iload 4, 2, 0, 0, 0, []), (74, .invokestatic 144, 3, 112, 1, 0, [845, 846]), (77, .iload_n 3, 1, 0, 0, 0, []), (78, .invokestatic 144, 3, 112, 1, 0, [845, 846]), (81, .if_icmp .ge 7, 3, 47, 0, 0, []), (84, .iconst 1, 1, 0, 0, 0, []), (85, .goto 4, 3, 48, 0, 0, []), (88, .iconst 0, 1, 0, 0, 0, []), (89, .istore 6, 2, 0, 0, 0, []), (91, .iload 6, 2, 0, 0, 0, []), (93, .ifCond .eq 22, 3, 63, 0, 0, []), (96, .aload_n 0, 1, 0, 0, 0, []), (97, .iload_n 2, 1, 0, 0, 0, []), (98, .iload 4, 2, 0, 0, 0, []), (100, .iconst (-1), 1, 0, 0, 0, []), (101, .ixor, 1, 0, 0, 0, []), (102, .iand, 1, 0, 0, 0, []), (103, .bipush (-9), 2, 0, 0, 0, []), (105, .iconst 0, 1, 0, 0, 0, []), (106, .invokevirtual 123, 3, 98, 3, 0, [764, 766, 24]), (109, .ifCond .eq 6, 3, 63, 0, 0, []), (112, .iload 4, 2, 0, 0, 0, []), (114, .istore_n 3, 1, 0, 0, 0, []), (115, .iinc 4 1, 3, 0, 0, 0, []), (118, .goto (-95), 3, 14, 0, 0, []), (121, .iload_n 1, 1, 0, 0, 0, []), (122, .ifCond .ne 7, 3, 69, 0, 0, []), (125, .iload_n 3, 1, 0, 0, 0, []), (126, .goto 8, 3, 72, 0, 0, []), (129, .aload_n 0, 1, 0, 0, 0, []), (130, .iload_n 3, 1, 0, 0, 0, []), (131, .invokevirtual 141, 3, 113, 1, 0, [841, 843, 35]), (134, .ireturn, 1, 0, 0, 0, [])]
-- 115: LetterDaysModel.core
def am_t115 : List am_En := [(0, .aload_n 0, 1, 0, 0, 0, []), (1, .invokevirtual 119, 3, 93, 0, 0, [760, 762, 23]), (4, .istore_n 1, 1, 0, 0, 0, []), (5, .aload_n 0, 1, 0, 0, 0, []), (6, .iload_n 1, 1, 0, 0, 0, []), (7, .bipush (-9), 2, 0, 0, 0, []), (9, .iconst 0, 1, 0, 0, 0, []), (10, .invokevirtual 123, 3, 98, 3, 0, [764, 766, 24]), (13, .ifCond .eq 6, 3, 11, 0, 0, []), (16, .bipush (-3), 2, 0, 0, 0, []), (18, .ireturn, 1, 0, 0, 0, []), (19, .aload_n 0, 1, 0, 0, 0, []), (20, .getfield 64, 3, 8, 3, 0, [637, 0]), (23, .iconst 1, 1, 0, 0, 0, []), (24, .isub, 1, 0, 0, 0, []), (25, .istore_n 2, 1, 0, 0, 0, []), (26, .iload_n 2, 1, 0, 0, 0, []), (27, .ifCond .lt 35, 3, 39, 0, 0, []), (30, .iload_n 1, 1, 0, 0, 0, []), (31, .iconst 1, 1, 0, 0, 0, []), (32, .iload_n 2, 1, 0, 0, 0, []), (33, .ishl, 1, 0, 0, 0, []), (34, .iconst (-1), 1, 0, 0, 0, []), (35, .ixor, 1, 0, 0, 0, []), (36, .iand, 1, 0, 0, 0, []), (37, .istore_n 3, 1, 0, 0, 0, []), (38, .iload_n 3, 1, 0, 0, 0, []), (39, .iload_n 1, 1, 0, 0, 0, []), (40, .if_icmp .eq 16, 3, 37, 0, 0, []), (43, .aload_n 0, 1, 0, 0, 0, []), (44, .iload_n 3, 1, 0, 0, 0, []), (45, .bipush (-9), 2, 0, 0, 0, []), (47, .iconst 0, 1, 0, 0, 0, []), (48, .invokevirtual 123, 3, 98, 3, 0, [764, 766, 24]), (51, .ifCond .ne 5, 3, 37, 0, 0, []), (54, .iload_n 3, 1, 0, 0, 0, []), (55, .istore_n 1, 1, 0, 0, 0, []), (56, .iinc 2 (-1), 3, 0, 0, 0, []), (59, .goto (-33), 3, 16, 0, 0, []), (62, .iload_n 1, 1, 0, 0, 0, []), (63, .ireturn, 1, 0, 0, 0, [])]
-- 116: LetterDaysModel.widthAll
def am_t116 : List am_En := [(0, .iconst 0, 1, 0, 0, 0, []), (1, .istore_n 1, 1, 0, 0, 0, []), (2, .iconst 0, 1, 0, 0, 0, []), (3, .istore_n 2, 1, 0, 0, 0, []), (4, .iload_n 2, 1, 0, 0, 0, []), (5, .aload_n 0, 1, 0, 0, 0, []), (6, .getfield 56, 3, 8, 0, 0, [634, 0]), (9, .if_icmp .ge 23, 3, 20, 0, 0, []), (12, .iload_n 1, 1, 0, 0, 0, []), (13, .aload_n 0, 1, 0, 0, 0, []), (14, .iload_n 2, 1, 0, 0, 0, []), (15, .invokevirtual 132, 3, 101, 1, 0, [801, 803, 32]), (18, .aload_n 0, 1, 0, 0, 0, []), (19, .iload_n 2, 1, 0, 0, 0, []), (20, .invokevirtual 129, 3, 100, 1, 0, [797, 799, 31]), (23, .isub, 1, 0, 0, 0, []), (24, .iadd, 1, 0, 0, 0, []), (25, .istore_n 1, 1, 0, 0, 0, []), (26, .iinc 2 1, 3, 0, 0, 0, []), (29, .goto (-25), 3, 4, 0, 0, []), (32, .iload_n 1, 1, 0, 0, 0, []), (33, .ireturn, 1, 0, 0, 0, [])]
-- 117: LetterDaysModel.worstOf
def am_t117 : List am_En := [(0, .aload_n 0, 1, 0, 0, 0, []), (1, .invokevirtual 119, 3, 93, 0, 0, [760, 762, 23]), (4, .istore_n 2, 1, 0, 0, 0, []), (5, .iconst 0, 1, 0, 0, 0, []), (6, .istore_n 3, 1, 0, 0, 0, []), (7, .iconst 0, 1, 0, 0, 0, []), (8, .istore 4, 2, 0, 0, 0, []), (10, .iload 4, 2, 0, 0, 0, []), (12, .sipush 200, 3, 0, 0, 0, []), (15, .if_icmp .ge 39, 3, 28, 0, 0, []), (18, .aload_n 0, 1, 0, 0, 0, []), (19, .iload_n 2, 1, 0, 0, 0, []), (20, .iload_n 1, 1, 0, 0, 0, []), (21, .iload 4, 2, 0, 0, 0, []), (23, .invokevirtual 123, 3, 98, 3, 0, [764, 766, 24]), (26, .ifCond .eq 22, 3, 26, 0, 0, []), (29, .aload_n 0, 1, 0, 0, 0, []), (30, .invokevirtual 147, 3, 116, 0, 0, [860, 862, 37]), (33, .istore 5, 2, 0, 0, 0, []), (35, .iload 5, 2, 0, 0, 0, []), (37, .iload_n 3, 1, 0, 0, 0, []), (38, .if_icmp .le 8, 3, 24, 0, 0, []), (41, .iload 5, 2, 0, 0, 0, []), (43, .goto 4, 3, 25, 0, 0, []), (46, .iload_n 3, 1, 0, 0, 0, []), (47, .istore_n 3, 1, 0, 0, 0, []), (48, .iinc 4 1, 3, 0, 0, 0, []), (51, .goto (-41), 3, 7, 0, 0, []), (54, .iload_n 3, 1, 0, 0, 0, []), (55, .ireturn, 1, 0, 0, 0, [])]
-- 118: LetterDaysModel.worst
def am_t118 : List am_En := [(0, .aload_n 0, 1, 0, 0, 0, []), (1, .iload_n 1, 1, 0, 0, 0, []), (2, .invokevirtual 71, 3, 78, 1, 0, [704, 706, 16]), (5, .ifCond .ne 5, 3, 6, 0, 0, []), (8, .iconst (-1), 1, 0, 0, 0, []), (9, .ireturn, 1, 0, 0, 0, []), (10, .aload_n 0, 1, 0, 0, 0, []), (11, .invokevirtual 126, 3, 99, 0, 0, [756, 758, 22]), (14, .ifCond .eq 11, 3, 13, 0, 0, []), (17, .aload_n 0, 1, 0, 0, 0, []), (18, .iload_n 1, 1, 0, 0, 0, []), (19, .invokevirtual 150, 3, 117, 1, 0, [856, 858, 36]), (22, .goto 5, 3, 14, 0, 0, []), (25, .bipush (-3), 2, 0, 0, 0, []), (27, .ireturn, 1, 0, 0, 0, [])]
-- 119: LetterDaysModel.best
def am_t119 : List am_En := [(0, .aload_n 0, 1, 0, 0, 0, []), (1, .invokevirtual 126, 3, 99, 0, 0, [756, 758, 22]), (4, .ifCond .ne 6, 3, 5, 0, 0, []), (7, .bipush (-3), 2, 0, 0, 0, []), (9, .ireturn, 1, 0, 0, 0, []), (10, .bipush (-9), 2, 0, 0, 0, []), (12, .istore_n 1, 1, 0, 0, 0, []), (13, .iconst 0, 1, 0, 0, 0, []), (14, .istore_n 2, 1, 0, 0, 0, []), (15, .iconst 0, 1, 0, 0, 0, []), (16, .istore_n 3, 1, 0, 0, 0, []), (17, .iload_n 3, 1, 0, 0, 0, []), (18, .aload_n 0, 1, 0, 0, 0, []), (19, .getfield 56, 3, 8, 0, 0, [634, 0]), (22, .if_icmp .ge 33, 3, 31, 0, 0, []), (25, .aload_n 0, 1, 0, 0, 0, []), (26, .iload_n 3, 1, 0, 0, 0, []), (27, .invokevirtual 150, 3, 117, 1, 0, [856, 858, 36]), (30, .istore 4, 2, 0, 0, 0, []), (32, .iload_n 1, 1, 0, 0, 0, []), (33, .bipush (-9), 2, 0, 0, 0, []), (35, .if_icmp .eq 9, 3, 25, 0, 0, []), (38, .iload 4, 2, 0, 0, 0, []), (40, .iload_n 2, 1, 0, 0, 0, []), (41, .if_icmp .ge 8, 3, 29, 0, 0, []), (44, .iload_n 3, 1, 0, 0, 0, []), (45, .istore_n 1, 1, 0, 0, 0, []), (46, .iload 4, 2, 0, 0, 0, []), (48, .istore_n 2, 1, 0, 0, 0, []), (49, .iinc 3 1, 3, 0, 0, 0, []), (52, .goto (-35), 3, 11, 0, 0, []), (55, .iload_n 1, 1, 0, 0, 0, []), (56, .ireturn, 1, 0, 0, 0, [])]
-- 120: LetterDaysModel.isBundle
def am_t120 : List am_En := [(0, .iload_n 0, 1, 0, 0, 0, []), (1, .iconst 0, 1, 0, 0, 0, []), (2, .iconst 2, 1, 0, 0, 0, []), (3, .invokestatic 60, 3, 77, 3, 0, [697, 698]), (6, .ireturn, 1, 0, 0, 0, [])]
-- 121: LetterDaysModel.placeIn
def am_t121 : List am_En := [(0, .iconst 0, 1, 0, 0, 0, []), (1, .istore_n 3, 1, 0, 0, 0, []), (2, .iload_n 3, 1, 0, 0, 0, []), (3, .aload_n 0, 1, 0, 0, 0, []), (4, .getfield 50, 3, 8, 16, 0, [650, 0]), (7, .iload_n 1, 1, 0, 0, 0, []), (8, .iaload, 1, 0, 0, 0, []), (9, .if_icmp .ge 26, 3, 22, 0, 0, []), (12, .aload_n 0, 1, 0, 0, 0, []), (13, .getfield 53, 3, 8, 17, 0, [651, 0]), (16, .bipush 8, 2, 0, 0, 0, []), (18, .iload_n 1, 1, 0, 0, 0, []), (19, .imul, 1, 0, 0, 0, []), (20, .iload_n 3, 1, 0, 0, 0, []), (21, .iadd, 1, 0, 0, 0, []), (22, .iaload, 1, 0, 0, 0, []), (23, .iload_n 2, 1, 0, 0, 0, []), (24, .if_icmp .ne 5, 3, 20, 0, 0, []), (27, .iload_n 3, 1, 0, 0, 0, []), (28, .ireturn, 1, 0, 0, 0, []), (29, .iinc 3 1, 3, 0, 0, 0, []), (32, .goto (-30), 3, 2, 0, 0, []), (35, .bipush (-9), 2, 0, 0, 0, []), (37, .ireturn, 1, 0, 0, 0, [])]
-- 122: LetterDaysModel.takesOut
def am_t122 : List am_En := [(0, .iload_n 2, 1, 0, 0, 0, []), (1, .bipush (-9), 2, 0, 0, 0, []), (3, .if_icmp .ne 4, 3, 4, 0, 0, []), (6, .return_, 1, 0, 0, 0, []), (7, .aload_n 0, 1, 0, 0, 0, []), (8, .getfield 50, 3, 8, 16, 0, [650, 0]), (11, .iload_n 1, 1, 0, 0, 0, []), (12, .dup2, 1, 0, 0, 0, []), (13, .iaload, 1, 0, 0, 0, []), (14, .iconst 1, 1, 0, 0, 0, []), (15, .isub, 1, 0, 0, 0, []), (16, .iastore, 1, 0, 0, 0, []), (17, .iload_n 2, 1, 0, 0, 0, []), (18, .istore_n 3, 1, 0, 0, 0, []), (19, .iload_n 3, 1, 0, 0, 0, []), (20, .aload_n 0, 1, 0, 0, 0, []), (21, .getfield 50, 3, 8, 16, 0, [650, 0]), (24, .iload_n 1, 1, 0, 0, 0, []), (25, .iaload, 1, 0, 0, 0, []), (26, .if_icmp .ge 33, 3, 40, 0, 0, []), (29, .aload_n 0, 1, 0, 0, 0, []), (30, .getfield 53, 3, 8, 17, 0, [651, 0]), (33, .bipush 8, 2, 0, 0, 0, []), (35, .iload_n 1, 1, 0, 0, 0, []), (36, .imul, 1, 0, 0, 0, []), (37, .iload_n 3, 1, 0, 0, 0, []), (38, .iadd, 1, 0, 0, 0, []), (39, .aload_n 0, 1, 0, 0, 0, []), (40, .getfield 53, 3, 8, 17, 0, [651, 0]), (43, .bipush 8, 2, 0, 0, 0, []), (45, .iload_n 1, 1, 0, 0, 0, []), (46, .imul, 1, 0, 0, 0, []), (47, .iload_n 3, 1, 0, 0, 0, []), (48, .iadd, 1, 0, 0, 0, []), (49, .iconst 1, 1, 0, 0, 0, []), (50, .iadd, 1, 0, 0, 0, []), (51, .iaload, 1, 0, 0, 0, []), (52, .iastore, 1, 0, 0, 0, []), (53, .iinc 3 1, 3, 0, 0, 0, []), (56, .goto (-37), 3, 14, 0, 0, []), (59, .return_, 1, 0, 0, 0, [])]
-- 123: LetterDaysModel.putsIn
def am_t123 : List am_En := [(0, .aload_n 0, 1, 0, 0, 0, []), (1, .getfield 50, 3, 8, 16, 0, [650, 0]), (4, .iload_n 1, 1, 0, 0, 0, []), (5, .iaload, 1, 0, 0, 0, []), (6, .istore 4, 2, 0, 0, 0, []), (8, .iload 4, 2, 0, 0, 0, []), (10, .iload_n 2, 1, 0, 0, 0, []), (11, .if_icmp .le 35, 3, 28, 0, 0, []), (14, .aload_n 0, 1, 0, 0, 0, []), (15, .getfield 53, 3, 8, 17, 0, [651, 0]), (18, .bipush 8, 2, 0, 0, 0, []), (20, .iload_n 1, 1, 0, 0, 0, []), (21, .imul, 1, 0, 0, 0, []), (22, .iload 4, 2, 0, 0, 0, []), (24, .iadd, 1, 0, 0, 0, []), (25, .aload_n 0, 1, 0, 0, 0, []), (26, .getfield 53, 3, 8, 17, 0, [651, 0]), (29, .bipush 8, 2, 0, 0, 0, []), (31, .iload_n 1, 1, 0, 0, 0, []), (32, .imul, 1, 0, 0, 0, []), (33, .iload 4, 2, 0, 0, 0, []), (35, .iadd, 1, 0, 0, 0, []), (36, .iconst 1, 1, 0, 0, 0, []), (37, .isub, 1, 0, 0, 0, []), (38, .iaload, 1, 0, 0, 0, []), (39, .iastore, 1, 0, 0, 0, []), (40, .iinc 4 (-1), 3, 0, 0, 0, []), (43, .goto (-35), 3, 5, 0, 0, []), (46, .aload_n 0, 1, 0, 0, 0, []), (47, .getfield 53, 3, 8, 17, 0, [651, 0]), (50, .bipush 8, 2, 0, 0, 0, []), (52, .iload_n 1, 1, 0, 0, 0, []), (53, .imul, 1, 0, 0, 0, []), (54, .iload_n 2, 1, 0, 0, 0, []), (55, .iadd, 1, 0, 0, 0, []), (56, .iload_n 3, 1, 0, 0, 0, []), (57, .iastore, 1, 0, 0, 0, []), (58, .aload_n 0, 1, 0, 0, 0, []), (59, .getfield 50, 3, 8, 16, 0, [650, 0]), (62, .iload_n 1, 1, 0, 0, 0, []), (63, .dup2, 1, 0, 0, 0, []), (64, .iaload, 1, 0, 0, 0, []), (65, .iconst 1, 1, 0, 0, 0, []), (66, .iadd, 1, 0, 0, 0, []), (67, .iastore, 1, 0, 0, 0, []), (68, .return_, 1, 0, 0, 0, [])]
-- 124: LetterDaysModel.tie
def am_t124 : List am_En := [(0, .aload_n 0, 1, 0, 0, 0, []), (1, .iload_n 1, 1, 0, 0, 0, []), (2, .invokevirtual 71, 3, 78, 1, 0, [704, 706, 16]), (5, .ifCond .eq 10, 3, 7, 0, 0, []), (8, .iload_n 2, 1, 0, 0, 0, []), (9, .invokestatic 153, 3, 120, 1, 0, [872, 873]), (12, .ifCond .ne 5, 3, 9, 0, 0, []), (15, .iconst (-1), 1, 0, 0, 0, []), (16, .ireturn, 1, 0, 0, 0, []), (17, .aload_n 0, 1, 0, 0, 0, []), (18, .iload_n 2, 1, 0, 0, 0, []), (19, .iload_n 1, 1, 0, 0, 0, []), (20, .invokevirtual 78, 3, 121, 2, 0, [728, 730, 18]), (23, .bipush (-9), 2, 0, 0, 0, []), (25, .if_icmp .ne 10, 3, 18, 0, 0, []), (28, .aload_n 0, 1, 0, 0, 0, []), (29, .invokevirtual 126, 3, 99, 0, 0, [756, 758, 22]), (32, .ifCond .ne 6, 3, 20, 0, 0, []), (35, .bipush (-3), 2, 0, 0, 0, []), (37, .ireturn, 1, 0, 0, 0, []), (38, .iconst 0, 1, 0, 0, 0, []), (39, .istore_n 3, 1, 0, 0, 0, []), (40, .iconst 0, 1, 0, 0, 0, []), (41, .istore 4, 2, 0, 0, 0, []), (43, .iload 4, 2, 0, 0, 0, []), (45, .aload_n 0, 1, 0, 0, 0, []), (46, .getfield 50, 3, 8, 16, 0, [650, 0]), (49, .iload_n 2, 1, 0, 0, 0, []), (50, .iaload, 1, 0, 0, 0, []), (51, .if_icmp .ge 78, 3, 70, 0, 0, []), (54, .aload_n 0, 1, 0, 0, 0, []), (55, .getfield 53, 3, 8, 17, 0, [651, 0]), (58, .bipush 8, 2, 0, 0, 0, []), (60, .iload_n 2, 1, 0, 0, 0, []), (61, .imul, 1, 0, 0, 0, []), (62, .iload 4, 2, 0, 0, 0, []), (64, .iadd, 1, 0, 0, 0, []), (65, .iaload, 1, 0, 0, 0, []), (66, .istore 5, 2, 0, 0, 0, []), (68, .aload_n 0, 1, 0, 0, 0, []), (69, .iload 5, 2, 0, 0, 0, []), (71, .invokevirtual 129, 3, 100, 1, 0, [797, 799, 31]), (74, .aload_n 0, 1, 0, 0, 0, []), (75, .iload_n 1, 1, 0, 0, 0, []), (76, .invokevirtual 129, 3, 100, 1, 0, [797, 799, 31]), (79, .if_icmp .lt 23, 3, 56, 0, 0, []), (82, .aload_n 0, 1, 0, 0, 0, []), (83, .iload 5, 2, 0, 0, 0, []), (85, .invokevirtual 129, 3, 100, 1, 0, [797, 799, 31]), (88, .aload_n 0, 1, 0, 0, 0, []), (89, .iload_n 1, 1, 0, 0, 0, []), (90, .invokevirtual 129, 3, 100, 1, 0, [797, 799, 31]), (93, .if_icmp .ne 13, 3, 58, 0, 0, []), (96, .iload 5, 2, 0, 0, 0, []), (98, .iload_n 1, 1, 0, 0, 0, []), (99, .if_icmp .ge 7, 3, 58, 0, 0, []), (102, .iconst 1, 1, 0, 0, 0, []), (103, .goto 4, 3, 59, 0, 0, []), (106, .iconst 0, 1, 0, 0, 0, []), (107, .istore 6, 2, 0, 0, 0, []), (109, .iload 6, 2, 0, 0, 0, []), (111, .ifCond .eq 10, 3, 66, 0, 0, []), (114, .iload 4, 2, 0, 0, 0, []), (116, .iconst 1, 1, 0, 0, 0, []), (117, .iadd, 1, 0, 0, 0, []), (118, .goto 4, 3, 67, 0, 0, []), (121, .iload_n 3, 1, 0, 0, 0, []), (122, .istore_n 3, 1, 0, 0, 0, []), (123, .iinc 4 1, 3, 0, 0, 0, []), (126, .goto (-83), 3, 24, 0, 0, []), (129, .aload_n 0, 1, 0, 0, 0, []), (130, .iload_n 2, 1, 0, 0, 0, []), (131, .iload_n 3, 1, 0, 0, 0, []), (132, .iload_n 1, 1, 0, 0, 0, []), (133, .invokevirtual 156, 3, 123, 3, 0, [875, 877, 38]), (136, .iload_n 3, 1, 0, 0, 0, []), (137, .ireturn, 1, 0, 0, 0, [])]
-- 125: LetterDaysModel.untie
def am_t125 : List am_En := [(0, .aload_n 0, 1, 0, 0, 0, []), (1, .iload_n 1, 1, 0, 0, 0, []), (2, .invokevirtual 71, 3, 78, 1, 0, [704, 706, 16]), (5, .ifCond .eq 10, 3, 7, 0, 0, []), (8, .iload_n 2, 1, 0, 0, 0, []), (9, .invokestatic 153, 3, 120, 1, 0, [872, 873]), (12, .ifCond .ne 5, 3, 9, 0, 0, []), (15, .iconst (-1), 1, 0, 0, 0, []), (16, .ireturn, 1, 0, 0, 0, []), (17, .aload_n 0, 1, 0, 0, 0, []), (18, .iload_n 2, 1, 0, 0, 0, []), (19, .iload_n 1, 1, 0, 0, 0, []), (20, .invokevirtual 78, 3, 121, 2, 0, [728, 730, 18]), (23, .istore_n 3, 1, 0, 0, 0, []), (24, .iload_n 3, 1, 0, 0, 0, []), (25, .bipush (-9), 2, 0, 0, 0, []), (27, .if_icmp .ne 6, 3, 19, 0, 0, []), (30, .bipush (-3), 2, 0, 0, 0, []), (32, .ireturn, 1, 0, 0, 0, []), (33, .aload_n 0, 1, 0, 0, 0, []), (34, .iload_n 2, 1, 0, 0, 0, []), (35, .iload_n 3, 1, 0, 0, 0, []), (36, .invokevirtual 82, 3, 122, 2, 0, [732, 734, 19]), (39, .aload_n 0, 1, 0, 0, 0, []), (40, .getfield 50, 3, 8, 16, 0, [650, 0]), (43, .iload_n 2, 1, 0, 0, 0, []), (44, .iaload, 1, 0, 0, 0, []), (45, .ireturn, 1, 0, 0, 0, [])]
-- 126: LetterDaysModel.setIn
def am_t126 : List am_En := [(0, .iconst 0, 1, 0, 0, 0, []), (1, .istore_n 2, 1, 0, 0, 0, []), (2, .iconst 0, 1, 0, 0, 0, []), (3, .istore_n 3, 1, 0, 0, 0, []), (4, .iload_n 3, 1, 0, 0, 0, []), (5, .aload_n 0, 1, 0, 0, 0, []), (6, .getfield 50, 3, 8, 16, 0, [650, 0]), (9, .iload_n 1, 1, 0, 0, 0, []), (10, .iaload, 1, 0, 0, 0, []), (11, .if_icmp .ge 25, 3, 25, 0, 0, []), (14, .iload_n 2, 1, 0, 0, 0, []), (15, .iconst 1, 1, 0, 0, 0, []), (16, .aload_n 0, 1, 0, 0, 0, []), (17, .getfield 53, 3, 8, 17, 0, [651, 0]), (20, .bipush 8, 2, 0, 0, 0, []), (22, .iload_n 1, 1, 0, 0, 0, []), (23, .imul, 1, 0, 0, 0, []), (24, .iload_n 3, 1, 0, 0, 0, []), (25, .iadd, 1, 0, 0, 0, []), (26, .iaload, 1, 0, 0, 0, []), (27, .ishl, 1, 0, 0, 0, []), (28, .ior, 1, 0, 0, 0, []), (29, .istore_n 2, 1, 0, 0, 0, []), (30, .iinc 3 1, 3, 0, 0, 0, []), (33, .goto (-29), 3, 4, 0, 0, []), (36, .iload_n 2, 1, 0, 0, 0, []), (37, .ireturn, 1, 0, 0, 0, [])]
-- 127: LetterDaysModel.spread
def am_t127 : List am_En := [(0, .iload_n 1, 1, 0, 0, 0, []), (1, .invokestatic 153, 3, 120, 1, 0, [872, 873]), (4, .ifCond .ne 5, 3, 5, 0, 0, []), (7, .iconst (-1), 1, 0, 0, 0, []), (8, .ireturn, 1, 0, 0, 0, []), (9, .aload_n 0, 1, 0, 0, 0, []), (10, .invokevirtual 126, 3, 99, 0, 0, [756, 758, 22]), (13, .ifCond .ne 6, 3, 10, 0, 0, []), (16, .bipush (-3), 2, 0, 0, 0, []), (18, .ireturn, 1, 0, 0, 0, []), (19, .aload_n 0, 1, 0, 0, 0, []), (20, .invokevirtual 138, 3, 108, 0, 0, [825, 827, 34]), (23, .aload_n 0, 1, 0, 0, 0, []), (24, .iload_n 1, 1, 0, 0, 0, []), (25, .invokevirtual 159, 3, 126, 1, 0, [887, 889, 39]), (28, .istore_n 2, 1, 0, 0, 0, []), (29, .iload_n 1, 1, 0, 0, 0, []), (30, .iconst 1, 1, 0, 0, 0, []), (31, .iadd, 1, 0, 0, 0, []), (32, .iconst 3, 1, 0, 0, 0, []), (33, .irem, 1, 0, 0, 0, []), (34, .istore_n 3, 1, 0, 0, 0, []), (35, .iconst 0, 1, 0, 0, 0, []), (36, .istore 4, 2, 0, 0, 0, []), (38, .iconst 0, 1, 0, 0, 0, []), (39, .istore 5, 2, 0, 0, 0, []), (41, .iload 5, 2, 0, 0, 0, []), (43, .aload_n 0, 1, 0, 0, 0, []), (44, .getfield 50, 3, 8, 16, 0, [650, 0]), (47, .iload_n 1, 1, 0, 0, 0, []), (48, .iaload, 1, 0, 0, 0, []), (49, .if_icmp .ge 87, 3, 77, 0, 0, []), (52, .aload_n 0, 1, 0, 0, 0, []), (53, .getfield 53, 3, 8, 17, 0, [651, 0]), (56, .bipush 8, 2, 0, 0, 0, []), (58, .iload_n 1, 1, 0, 0, 0, []), (59, .imul, 1, 0, 0, 0, []), (60, .iload 5, 2, 0, 0, 0, []), (62, .iadd, 1, 0, 0, 0, []), (63, .iaload, 1, 0, 0, 0, []), (64, .istore 6, 2, 0, 0, 0, []), (66, .aload_n 0, 1, 0, 0, 0, []), (67, .getfield 44, 3, 8, 14, 0, [648, 0]), (70, .iload 6, 2, 0, 0, 0, []), (72, .iaload, 1, 0, 0, 0, []), (73, .iload_n 2, 1, 0, 0, 0, []), (74, .iand, 1, 0, 0, 0, []), (75, .ifCond .ne 9, 3, 50, 0, 0, []), (78, .iinc 5 1, 3, 0, 0, 0, []), (81, .goto (-40), 3, 26, 0, 0, []), (84, .aload_n 0, 1, 0, 0, 0, []), (85, .iload_n 1, 1, 0, 0, 0, []), (86, .iload 5, 2, 0, 0, 0, []), (88, .invokevirtual 82, 3, 122, 2, 0, [732, 734, 19]), (91, .iinc 4 1, 3, 0, 0, 0, []), (94, .aload_n 0, 1, 0, 0, 0, []), (95, .iload_n 3, 1, 0, 0, 0, []), (96, .iload 6, 2, 0, 0, 0, []), (98, .invokevirtual 78, 3, 121, 2, 0, [728, 730, 18]), (101, .istore 7, 2, 0, 0, 0, []), (103, .iload 7, 2, 0, 0, 0, []), (105, .bipush (-9), 2, 0, 0, 0, []), (107, .if_icmp .eq 13, 3, 68, 0, 0, []), (110, .aload_n 0, 1, 0, 0, 0, []), (111, .iload_n 3, 1, 0, 0, 0, []), (112, .iload 7, 2, 0, 0, 0, []), (114, .invokevirtual 82, 3, 122, 2, 0, [732, 734, 19]), (117, .goto 16, 3, 76, 0, 0, []), (120, .aload_n 0, 1, 0, 0, 0, []), (121, .iload_n 3, 1, 0, 0, 0, []), (122, .aload_n 0, 1, 0, 0, 0, []), (123, .getfield 50, 3, 8, 16, 0, [650, 0]), (126, .iload_n 3, 1, 0, 0, 0, []), (127, .iaload, 1, 0, 0, 0, []), (128, .iload 6, 2, 0, 0, 0, []), (130, .invokevirtual 156, 3, 123, 3, 0, [875, 877, 38]), (133, .goto (-92), 3, 26, 0, 0, []), (136, .iload 4, 2, 0, 0, 0, []), (138, .ireturn, 1, 0, 0, 0, [])]
-- 128: LetterDaysModel.lies
def am_t128 : List am_En := [(0, .iload_n 1, 1, 0, 0, 0, []), (1, .invokestatic 153, 3, 120, 1, 0, [872, 873]), (4, .ifCond .ne 5, 3, 5, 0, 0, []), (7, .iconst (-1), 1, 0, 0, 0, []), (8, .ireturn, 1, 0, 0, 0, []), (9, .iload_n 2, 1, 0, 0, 0, []), (10, .iconst 0, 1, 0, 0, 0, []), (11, .bipush 7, 2, 0, 0, 0, []), (13, .invokestatic 60, 3, 77, 3, 0, [697, 698]), (16, .ifCond .ne 6, 3, 12, 0, 0, []), (19, .bipush (-2), 2, 0, 0, 0, []), (21, .ireturn, 1, 0, 0, 0, []), (22, .iload_n 2, 1, 0, 0, 0, []), (23, .aload_n 0, 1, 0, 0, 0, []), (24, .getfield 50, 3, 8, 16, 0, [650, 0]), (27, .iload_n 1, 1, 0, 0, 0, []), (28, .iaload, 1, 0, 0, 0, []), (29, .if_icmp .ge 17, 3, 27, 0, 0, []), (32, .aload_n 0, 1, 0, 0, 0, []), (33, .getfield 53, 3, 8, 17, 0, [651, 0]), (36, .bipush 8, 2, 0, 0, 0, []), (38, .iload_n 1, 1, 0, 0, 0, []), (39, .imul, 1, 0, 0, 0, []), (40, .iload_n 2, 1, 0, 0, 0, []), (41, .iadd, 1, 0, 0, 0, []), (42, .iaload, 1, 0, 0, 0, []), (43, .goto 5, 3, 28, 0, 0, []), (46, .bipush (-9), 2, 0, 0, 0, []), (48, .ireturn, 1, 0, 0, 0, [])]
-- 129: LetterDaysModel.many
def am_t129 : List am_En := [(0, .iload_n 1, 1, 0, 0, 0, []), (1, .tableswitch 79 0 6 #[43, 48, 53, 61, 61, 61, 70], 43, 24, 0, 0, [2, 5, 8, 12, 12, 12, 19]), (44, .aload_n 0, 1, 0, 0, 0, []), (45, .getfield 56, 3, 8, 0, 0, [634, 0]), (48, .ireturn, 1, 0, 0, 0, []), (49, .aload_n 0, 1, 0, 0, 0, []), (50, .getfield 64, 3, 8, 3, 0, [637, 0]), (53, .ireturn, 1, 0, 0, 0, []), (54, .aload_n 0, 1, 0, 0, 0, []), (55, .invokevirtual 119, 3, 93, 0, 0, [760, 762, 23]), (58, .invokestatic 144, 3, 112, 1, 0, [845, 846]), (61, .ireturn, 1, 0, 0, 0, []), (62, .aload_n 0, 1, 0, 0, 0, []), (63, .getfield 50, 3, 8, 16, 0, [650, 0]), (66, .iload_n 1, 1, 0, 0, 0, []), (67, .iconst 3, 1, 0, 0, 0, []), (68, .isub, 1, 0, 0, 0, []), (69, .iaload, 1, 0, 0, 0, []), (70, .ireturn, 1, 0, 0, 0, []), (71, .aload_n 0, 1, 0, 0, 0, []), (72, .aload_n 0, 1, 0, 0, 0, []), (73, .invokevirtual 119, 3, 93, 0, 0, [760, 762, 23]), (76, .invokevirtual 141, 3, 113, 1, 0, [841, 843, 35]), (79, .ireturn, 1, 0, 0, 0, []), (80, .bipush (-2), 2, 0, 0, 0, []), (82, .ireturn, 1, 0, 0, 0, [])]
-- 130: java/lang/Integer.bitCount_0f7a4
def am_t130 : List am_En := [(0, .iload_n 0, 1, 0, 0, 0, []), (1, .iload_n 0, 1, 0, 0, 0, []), (2, .iconst 1, 1, 0, 0, 0, []), (3, .iushr, 1, 0, 0, 0, []), (4, .ldc_w 265, 3, 0, 0, 1431655765, [549]), (7, .iand, 1, 0, 0, 0, []), (8, .isub, 1, 0, 0, 0, []), (9, .istore_n 0, 1, 0, 0, 0, []), (10, .iload_n 0, 1, 0, 0, 0, []), (11, .ldc_w 266, 3, 0, 0, 858993459, [550]), (14, .iand, 1, 0, 0, 0, []), (15, .iload_n 0, 1, 0, 0, 0, []), (16, .iconst 2, 1, 0, 0, 0, []), (17, .iushr, 1, 0, 0, 0, []), (18, .ldc_w 266, 3, 0, 0, 858993459, [550]), (21, .iand, 1, 0, 0, 0, []), (22, .iadd, 1, 0, 0, 0, []), (23, .istore_n 0, 1, 0, 0, 0, []), (24, .iload_n 0, 1, 0, 0, 0, []), (25, .iload_n 0, 1, 0, 0, 0, []), (26, .iconst 4, 1, 0, 0, 0, []), (27, .iushr, 1, 0, 0, 0, []), (28, .iadd, 1, 0, 0, 0, []), (29, .ldc_w 267, 3, 0, 0, 252645135, [551]), (32, .iand, 1, 0, 0, 0, []), (33, .istore_n 0, 1, 0, 0, 0, []), (34, .iload_n 0, 1, 0, 0, 0, []), (35, .iload_n 0, 1, 0, 0, 0, []), (36, .bipush 8, 2, 0, 0, 0, []), (38, .iushr, 1, 0, 0, 0, []), (39, .iadd, 1, 0, 0, 0, []), (40, .istore_n 0, 1, 0, 0, 0, []), (41, .iload_n 0, 1, 0, 0, 0, []), (42, .iload_n 0, 1, 0, 0, 0, []), (43, .bipush 16, 2, 0, 0, 0, []), (45, .iushr, 1, 0, 0, 0, []), (46, .iadd, 1, 0, 0, 0, []), (47, .istore_n 0, 1, 0, 0, 0, []), (48, .iload_n 0, 1, 0, 0, 0, []), (49, .bipush 63, 2, 0, 0, 0, []), (51, .iand, 1, 0, 0, 0, []), (52, .ireturn, 1, 0, 0, 0, [])]
-- 131: LetterDaysLaw.law
def am_t131 : List am_En := [(0, .new 7, 3, 0, 0, 0, []), (3, .dup, 1, 0, 0, 0, []), (4, .invokespecial 9, 3, 0, 0, 0, []), (7, .astore_n 1, 1, 0, 0, 0, []), (8, .new 10, 3, 0, 0, 0, []), (11, .dup, 1, 0, 0, 0, []), (12, .invokespecial 12, 3, 0, 0, 0, []), (15, .astore_n 2, 1, 0, 0, 0, []), (16, .iconst 0, 1, 0, 0, 0, []), (17, .istore_n 3, 1, 0, 0, 0, []), (18, .iload_n 3, 1, 0, 0, 0, []), (19, .aload_n 0, 1, 0, 0, 0, []), (20, .arraylength, 1, 0, 0, 0, []), (21, .bipush 6, 2, 0, 0, 0, []), (23, .isub, 1, 0, 0, 0, []), (24, .if_icmp .gt 831, 3, 567, 0, 0, []), (27, .aload_n 0, 1, 0, 0, 0, []), (28, .iload_n 3, 1, 0, 0, 0, []), (29, .iaload, 1, 0, 0, 0, []), (30, .bipush 31, 2, 0, 0, 0, []), (32, .iand, 1, 0, 0, 0, []), (33, .tableswitch 816 0 24 #[115, 148, 191, 254, 303, 316, 329, 362, 395, 408, 441, 474, 497, 530, 563, 576, 599, 622, 635, 658, 671, 704, 737, 760, 793], 115, 565, 0, 0, [22, 49, 86, 143, 178, 185, 192, 219, 246, 253, 280, 307, 324, 351, 378, 385, 402, 419, 426, 443, 450, 477, 504, 521, 548]), (148, .aload_n 1, 1, 0, 0, 0, []), (149, .aload_n 0, 1, 0, 0, 0, []), (150, .iload_n 3, 1, 0, 0, 0, []), (151, .iconst 1, 1, 0, 0, 0, []), (152, .iadd, 1, 0, 0, 0, []), (153, .iaload, 1, 0, 0, 0, []), (154, .aload_n 0, 1, 0, 0, 0, []), (155, .iload_n 3, 1, 0, 0, 0, []), (156, .iconst 2, 1, 0, 0, 0, []), (157, .iadd, 1, 0, 0, 0, []), (158, .iaload, 1, 0, 0, 0, []), (159, .invokevirtual 13, 3, 45, 2, 0, [298, 299, 300]), (162, .aload_n 2, 1, 0, 0, 0, []), (163, .aload_n 0, 1, 0, 0, 0, []), (164, .iload_n 3, 1, 0, 0, 0, []), (165, .iconst 1, 1, 0, 0, 0, []), (166, .iadd, 1, 0, 0, 0, []), (167, .iaload, 1, 0, 0, 0, []), (168, .aload_n 0, 1, 0, 0, 0, []), (169, .iload_n 3, 1, 0, 0, 0, []), (170, .iconst 2, 1, 0, 0, 0, []), (171, .iadd, 1, 0, 0, 0, []), (172, .iaload, 1, 0, 0, 0, []), (173, .invokevirtual 17, 3, 81, 2, 0, [690, 691, 692]), (176, .if_icmp .eq 673, 3, 565, 0, 0, []), (179, .iconst 0, 1, 0, 0, 0, []), (180, .ireturn, 1, 0, 0, 0, []), (181, .aload_n 1, 1, 0, 0, 0, []), (182, .aload_n 0, 1, 0, 0, 0, []), (183, .iload_n 3, 1, 0, 0, 0, []), (184, .iconst 1, 1, 0, 0, 0, []), (185, .iadd, 1, 0, 0, 0, []), (186, .iaload, 1, 0, 0, 0, []), (187, .aload_n 0, 1, 0, 0, 0, []), (188, .iload_n 3, 1, 0, 0, 0, []), (189, .iconst 2, 1, 0, 0, 0, []), (190, .iadd, 1, 0, 0, 0, []), (191, .iaload, 1, 0, 0, 0, []), (192, .aload_n 0, 1, 0, 0, 0, []), (193, .iload_n 3, 1, 0, 0, 0, []), (194, .iconst 3, 1, 0, 0, 0, []), (195, .iadd, 1, 0, 0, 0, []), (196, .iaload, 1, 0, 0, 0, []), (197, .invokevirtual 18, 3, 46, 3, 0, [309, 310, 311]), (200, .aload_n 2, 1, 0, 0, 0, []), (201, .aload_n 0, 1, 0, 0, 0, []), (202, .iload_n 3, 1, 0, 0, 0, []), (203, .iconst 1, 1, 0, 0, 0, []), (204, .iadd, 1, 0, 0, 0, []), (205, .iaload, 1, 0, 0, 0, []), (206, .aload_n 0, 1, 0, 0, 0, []), (207, .iload_n 3, 1, 0, 0, 0, []), (208, .iconst 2, 1, 0, 0, 0, []), (209, .iadd, 1, 0, 0, 0, []), (210, .iaload, 1, 0, 0, 0, []), (211, .aload_n 0, 1, 0, 0, 0, []), (212, .iload_n 3, 1, 0, 0, 0, []), (213, .iconst 3, 1, 0, 0, 0, []), (214, .iadd, 1, 0, 0, 0, []), (215, .iaload, 1, 0, 0, 0, []), (216, .invokevirtual 22, 3, 82, 3, 0, [700, 701, 702]), (219, .if_icmp .eq 630, 3, 565, 0, 0, []), (222, .iconst 0, 1, 0, 0, 0, []), (223, .ireturn, 1, 0, 0, 0, []), (224, .aload_n 1, 1, 0, 0, 0, []), (225, .aload_n 0, 1, 0, 0, 0, []), (226, .iload_n 3, 1, 0, 0, 0, []), (227, .iconst 1, 1, 0, 0, 0, []), (228, .iadd, 1, 0, 0, 0, []), (229, .iaload, 1, 0, 0, 0, []), (230, .aload_n 0, 1, 0, 0, 0, []), (231, .iload_n 3, 1, 0, 0, 0, []), (232, .iconst 2, 1, 0, 0, 0, []), (233, .iadd, 1, 0, 0, 0, []), (234, .iaload, 1, 0, 0, 0, []), (235, .aload_n 0, 1, 0, 0, 0, []), (236, .iload_n 3, 1, 0, 0, 0, []), (237, .iconst 3, 1, 0, 0, 0, []), (238, .iadd, 1, 0, 0, 0, []), (239, .iaload, 1, 0, 0, 0, []), (240, .aload_n 0, 1, 0, 0, 0, []), (241, .iload_n 3, 1, 0, 0, 0, []), (242, .iconst 4, 1, 0, 0, 0, []), (243, .iadd, 1, 0, 0, 0, []), (244, .iaload, 1, 0, 0, 0, []), (245, .aload_n 0, 1, 0, 0, 0, []), (246, .iload_n 3, 1, 0, 0, 0, []), (247, .iconst 5, 1, 0, 0, 0, []), (248, .iadd, 1, 0, 0, 0, []), (249, .iaload, 1, 0, 0, 0, []), (250, .invokevirtual 23, 3, 47, 5, 0, [317, 318, 319]), (253, .aload_n 2, 1, 0, 0, 0, []), (254, .aload_n 0, 1, 0, 0, 0, []), (255, .iload_n 3, 1, 0, 0, 0, []), (256, .iconst 1, 1, 0, 0, 0, []), (257, .iadd, 1, 0, 0, 0, []), (258, .iaload, 1, 0, 0, 0, []), (259, .aload_n 0, 1, 0, 0, 0, []), (260, .iload_n 3, 1, 0, 0, 0, []), (261, .iconst 2, 1, 0, 0, 0, []), (262, .iadd, 1, 0, 0, 0, []), (263, .iaload, 1, 0, 0, 0, []), (264, .aload_n 0, 1, 0, 0, 0, []), (265, .iload_n 3, 1, 0, 0, 0, []), (266, .iconst 3, 1, 0, 0, 0, []), (267, .iadd, 1, 0, 0, 0, []), (268, .iaload, 1, 0, 0, 0, []), (269, .aload_n 0, 1, 0, 0, 0, []), (270, .iload_n 3, 1, 0, 0, 0, []), (271, .iconst 4, 1, 0, 0, 0, []), (272, .iadd, 1, 0, 0, 0, []), (273, .iaload, 1, 0, 0, 0, []), (274, .aload_n 0, 1, 0, 0, 0, []), (275, .iload_n 3, 1, 0, 0, 0, []), (276, .iconst 5, 1, 0, 0, 0, []), (277, .iadd, 1, 0, 0, 0, []), (278, .iaload, 1, 0, 0, 0, []), (279, .invokevirtual 27, 3, 83, 5, 0, [708, 709, 710]), (282, .if_icmp .eq 567, 3, 565, 0, 0, []), (285, .iconst 0, 1, 0, 0, 0, []), (286, .ireturn, 1, 0, 0, 0, []), (287, .aload_n 1, 1, 0, 0, 0, []), (288, .aload_n 0, 1, 0, 0, 0, []), (289, .iload_n 3, 1, 0, 0, 0, []), (290, .iconst 1, 1, 0, 0, 0, []), (291, .iadd, 1, 0, 0, 0, []), (292, .iaload, 1, 0, 0, 0, []), (293, .aload_n 0, 1, 0, 0, 0, []), (294, .iload_n 3, 1, 0, 0, 0, []), (295, .iconst 2, 1, 0, 0, 0, []), (296, .iadd, 1, 0, 0, 0, []), (297, .iaload, 1, 0, 0, 0, []), (298, .ifCond .eq 7, 3, 157, 0, 0, []), (301, .iconst 1, 1, 0, 0, 0, []), (302, .goto 4, 3, 158, 0, 0, []), (305, .iconst 0, 1, 0, 0, 0, []), (306, .invokevirtual 28, 3, 48, 2, 0, [327, 328, 329]), (309, .aload_n 2, 1, 0, 0, 0, []), (310, .aload_n 0, 1, 0, 0, 0, []), (311, .iload_n 3, 1, 0, 0, 0, []), (312, .iconst 1, 1, 0, 0, 0, []), (313, .iadd, 1, 0, 0, 0, []), (314, .iaload, 1, 0, 0, 0, []), (315, .aload_n 0, 1, 0, 0, 0, []), (316, .iload_n 3, 1, 0, 0, 0, []), (317, .iconst 2, 1, 0, 0, 0, []), (318, .iadd, 1, 0, 0, 0, []), (319, .iaload, 1, 0, 0, 0, []), (320, .ifCond .eq 7, 3, 173, 0, 0, []), (323, .iconst 1, 1, 0, 0, 0, []), (324, .goto 4, 3, 174, 0, 0, []), (327, .iconst 0, 1, 0, 0, 0, []), (328, .invokevirtual 32, 3, 84, 2, 0, [712, 713, 714]), (331, .if_icmp .eq 518, 3, 565, 0, 0, []), (334, .iconst 0, 1, 0, 0, 0, []), (335, .ireturn, 1, 0, 0, 0, []), (336, .aload_n 1, 1, 0, 0, 0, []), (337, .invokevirtual 33, 3, 49, 0, 0, [339, 340, 341]), (340, .aload_n 2, 1, 0, 0, 0, []), (341, .invokevirtual 37, 3, 85, 0, 0, [720, 721, 722]), (344, .if_icmp .eq 505, 3, 565, 0, 0, []), (347, .iconst 0, 1, 0, 0, 0, []), (348, .ireturn, 1, 0, 0, 0, []), (349, .aload_n 1, 1, 0, 0, 0, []), (350, .invokevirtual 38, 3, 50, 0, 0, [343, 344, 345]), (353, .aload_n 2, 1, 0, 0, 0, []), (354, .invokevirtual 41, 3, 86, 0, 0, [724, 725, 726]), (357, .if_icmp .eq 492, 3, 565, 0, 0, []), (360, .iconst 0, 1, 0, 0, 0, []), (361, .ireturn, 1, 0, 0, 0, []), (362, .aload_n 1, 1, 0, 0, 0, []), (363, .aload_n 0, 1, 0, 0, 0, []), (364, .iload_n 3, 1, 0, 0, 0, []), (365, .iconst 1, 1, 0, 0, 0, []), (366, .iadd, 1, 0, 0, 0, []), (367, .iaload, 1, 0, 0, 0, []), (368, .aload_n 0, 1, 0, 0, 0, []), (369, .iload_n 3, 1, 0, 0, 0, []), (370, .iconst 2, 1, 0, 0, 0, []), (371, .iadd, 1, 0, 0, 0, []), (372, .iaload, 1, 0, 0, 0, []), (373, .invokevirtual 42, 3, 51, 2, 0, [359, 360, 361]), (376, .aload_n 2, 1, 0, 0, 0, []), (377, .aload_n 0, 1, 0, 0, 0, []), (378, .iload_n 3, 1, 0, 0, 0, []), (379, .iconst 1, 1, 0, 0, 0, []), (380, .iadd, 1, 0, 0, 0, []), (381, .iaload, 1, 0, 0, 0, []), (382, .aload_n 0, 1, 0, 0, 0, []), (383, .iload_n 3, 1, 0, 0, 0, []), (384, .iconst 2, 1, 0, 0, 0, []), (385, .iadd, 1, 0, 0, 0, []), (386, .iaload, 1, 0, 0, 0, []), (387, .invokevirtual 45, 3, 89, 2, 0, [736, 737, 738]), (390, .if_icmp .eq 459, 3, 565, 0, 0, []), (393, .iconst 0, 1, 0, 0, 0, []), (394, .ireturn, 1, 0, 0, 0, []), (395, .aload_n 1, 1, 0, 0, 0, []), (396, .aload_n 0, 1, 0, 0, 0, []), (397, .iload_n 3, 1, 0, 0, 0, []), (398, .iconst 1, 1, 0, 0, 0, []), (399, .iadd, 1, 0, 0, 0, []), (400, .iaload, 1, 0, 0, 0, []), (401, .aload_n 0, 1, 0, 0, 0, []), (402, .iload_n 3, 1, 0, 0, 0, []), (403, .iconst 2, 1, 0, 0, 0, []), (404, .iadd, 1, 0, 0, 0, []), (405, .iaload, 1, 0, 0, 0, []), (406, .invokevirtual 46, 3, 52, 2, 0, [380, 381, 382]), (409, .aload_n 2, 1, 0, 0, 0, []), (410, .aload_n 0, 1, 0, 0, 0, []), (411, .iload_n 3, 1, 0, 0, 0, []), (412, .iconst 1, 1, 0, 0, 0, []), (413, .iadd, 1, 0, 0, 0, []), (414, .iaload, 1, 0, 0, 0, []), (415, .aload_n 0, 1, 0, 0, 0, []), (416, .iload_n 3, 1, 0, 0, 0, []), (417, .iconst 2, 1, 0, 0, 0, []), (418, .iadd, 1, 0, 0, 0, []), (419, .iaload, 1, 0, 0, 0, []), (420, .invokevirtual 49, 3, 90, 2, 0, [748, 749, 750]), (423, .if_icmp .eq 426, 3, 565, 0, 0, []), (426, .iconst 0, 1, 0, 0, 0, []), (427, .ireturn, 1, 0, 0, 0, []), (428, .aload_n 1, 1, 0, 0, 0, []), (429, .invokevirtual 50, 3, 53, 0, 0, [384, 385, 386]), (432, .aload_n 2, 1, 0, 0, 0, []), (433, .invokevirtual 53, 3, 102, 0, 0, [752, 753, 754]), (436, .if_icmp .eq 413, 3, 565, 0, 0, []), (439, .iconst 0, 1, 0, 0, 0, []), (440, .ireturn, 1, 0, 0, 0, []), (441, .aload_n 1, 1, 0, 0, 0, []), (442, .aload_n 0, 1, 0, 0, 0, []), (443, .iload_n 3, 1, 0, 0, 0, []), (444, .iconst 1, 1, 0, 0, 0, []), (445, .iadd, 1, 0, 0, 0, []), (446, .iaload, 1, 0, 0, 0, []), (447, .aload_n 0, 1, 0, 0, 0, []), (448, .iload_n 3, 1, 0, 0, 0, []), (449, .iconst 2, 1, 0, 0, 0, []), (450, .iadd, 1, 0, 0, 0, []), (451, .iaload, 1, 0, 0, 0, []), (452, .invokevirtual 54, 3, 54, 2, 0, [434, 435, 436]), (455, .aload_n 2, 1, 0, 0, 0, []), (456, .aload_n 0, 1, 0, 0, 0, []), (457, .iload_n 3, 1, 0, 0, 0, []), (458, .iconst 1, 1, 0, 0, 0, []), (459, .iadd, 1, 0, 0, 0, []), (460, .iaload, 1, 0, 0, 0, []), (461, .aload_n 0, 1, 0, 0, 0, []), (462, .iload_n 3, 1, 0, 0, 0, []), (463, .iconst 2, 1, 0, 0, 0, []), (464, .iadd, 1, 0, 0, 0, []), (465, .iaload, 1, 0, 0, 0, []), (466, .invokevirtual 57, 3, 103, 2, 0, [793, 794, 795]), (469, .if_icmp .eq 380, 3, 565, 0, 0, []), (472, .iconst 0, 1, 0, 0, 0, []), (473, .ireturn, 1, 0, 0, 0, []), (474, .aload_n 1, 1, 0, 0, 0, []), (475, .aload_n 0, 1, 0, 0, 0, []), (476, .iload_n 3, 1, 0, 0, 0, []), (477, .iconst 1, 1, 0, 0, 0, []), (478, .iadd, 1, 0, 0, 0, []), (479, .iaload, 1, 0, 0, 0, []), (480, .aload_n 0, 1, 0, 0, 0, []), (481, .iload_n 3, 1, 0, 0, 0, []), (482, .iconst 2, 1, 0, 0, 0, []), (483, .iadd, 1, 0, 0, 0, []), (484, .iaload, 1, 0, 0, 0, []), (485, .invokevirtual 58, 3, 55, 2, 0, [438, 439, 440]), (488, .aload_n 2, 1, 0, 0, 0, []), (489, .aload_n 0, 1, 0, 0, 0, []), (490, .iload_n 3, 1, 0, 0, 0, []), (491, .iconst 1, 1, 0, 0, 0, []), (492, .iadd, 1, 0, 0, 0, []), (493, .iaload, 1, 0, 0, 0, []), (494, .aload_n 0, 1, 0, 0, 0, []), (495, .iload_n 3, 1, 0, 0, 0, []), (496, .iconst 2, 1, 0, 0, 0, []), (497, .iadd, 1, 0, 0, 0, []), (498, .iaload, 1, 0, 0, 0, []), (499, .invokevirtual 61, 3, 104, 2, 0, [805, 806, 807]), (502, .if_icmp .eq 347, 3, 565, 0, 0, []), (505, .iconst 0, 1, 0, 0, 0, []), (506, .ireturn, 1, 0, 0, 0, []), (507, .aload_n 1, 1, 0, 0, 0, []), (508, .aload_n 0, 1, 0, 0, 0, []), (509, .iload_n 3, 1, 0, 0, 0, []), (510, .iconst 1, 1, 0, 0, 0, []), (511, .iadd, 1, 0, 0, 0, []), (512, .iaload, 1, 0, 0, 0, []), (513, .invokevirtual 62, 3, 56, 1, 0, [470, 471, 472]), (516, .aload_n 2, 1, 0, 0, 0, []), (517, .aload_n 0, 1, 0, 0, 0, []), (518, .iload_n 3, 1, 0, 0, 0, []), (519, .iconst 1, 1, 0, 0, 0, []), (520, .iadd, 1, 0, 0, 0, []), (521, .iaload, 1, 0, 0, 0, []), (522, .invokevirtual 66, 3, 105, 1, 0, [809, 810, 811]), (525, .if_icmp .eq 324, 3, 565, 0, 0, []), (528, .iconst 0, 1, 0, 0, 0, []), (529, .ireturn, 1, 0, 0, 0, []), (530, .aload_n 1, 1, 0, 0, 0, []), (531, .aload_n 0, 1, 0, 0, 0, []), (532, .iload_n 3, 1, 0, 0, 0, []), (533, .iconst 1, 1, 0, 0, 0, []), (534, .iadd, 1, 0, 0, 0, []), (535, .iaload, 1, 0, 0, 0, []), (536, .aload_n 0, 1, 0, 0, 0, []), (537, .iload_n 3, 1, 0, 0, 0, []), (538, .iconst 2, 1, 0, 0, 0, []), (539, .iadd, 1, 0, 0, 0, []), (540, .iaload, 1, 0, 0, 0, []), (541, .invokevirtual 67, 3, 57, 2, 0, [478, 479, 480]), (544, .aload_n 2, 1, 0, 0, 0, []), (545, .aload_n 0, 1, 0, 0, 0, []), (546, .iload_n 3, 1, 0, 0, 0, []), (547, .iconst 1, 1, 0, 0, 0, []), (548, .iadd, 1, 0, 0, 0, []), (549, .iaload, 1, 0, 0, 0, []), (550, .aload_n 0, 1, 0, 0, 0, []), (551, .iload_n 3, 1, 0, 0, 0, []), (552, .iconst 2, 1, 0, 0, 0, []), (553, .iadd, 1, 0, 0, 0, []), (554, .iaload, 1, 0, 0, 0, []), (555, .invokevirtual 70, 3, 107, 2, 0, [813, 814, 815]), (558, .if_icmp .eq 291, 3, 565, 0, 0, []), (561, .iconst 0, 1, 0, 0, 0, []), (562, .ireturn, 1, 0, 0, 0, []), (563, .aload_n 1, 1, 0, 0, 0, []), (564, .aload_n 0, 1, 0, 0, 0, []), (565, .iload_n 3, 1, 0, 0, 0, []), (566, .iconst 1, 1, 0, 0, 0, []), (567, .iadd, 1, 0, 0, 0, []), (568, .iaload, 1, 0, 0, 0, []), (569, .aload_n 0, 1, 0, 0, 0, []), (570, .iload_n 3, 1, 0, 0, 0, []), (571, .iconst 2, 1, 0, 0, 0, []), (572, .iadd, 1, 0, 0, 0, []), (573, .iaload, 1, 0, 0, 0, []), (574, .invokevirtual 71, 3, 58, 2, 0, [486, 487, 488]), (577, .aload_n 2, 1, 0, 0, 0, []), (578, .aload_n 0, 1, 0, 0, 0, []), (579, .iload_n 3, 1, 0, 0, 0, []), (580, .iconst 1, 1, 0, 0, 0, []), (581, .iadd, 1, 0, 0, 0, []), (582, .iaload, 1, 0, 0, 0, []), (583, .aload_n 0, 1, 0, 0, 0, []), (584, .iload_n 3, 1, 0, 0, 0, []), (585, .iconst 2, 1, 0, 0, 0, []), (586, .iadd, 1, 0, 0, 0, []), (587, .iaload, 1, 0, 0, 0, []), (588, .invokevirtual 74, 3, 109, 2, 0, [821, 822, 823]), (591, .if_icmp .eq 258, 3, 565, 0, 0, []), (594, .iconst 0, 1, 0, 0, 0, []), (595, .ireturn, 1, 0, 0, 0, []), (596, .aload_n 1, 1, 0, 0, 0, []), (597, .invokevirtual 75, 3, 59, 0, 0, [498, 499, 500]), (600, .aload_n 2, 1, 0, 0, 0, []), (601, .invokevirtual 78, 3, 110, 0, 0, [829, 830, 831]), (604, .if_icmp .eq 245, 3, 565, 0, 0, []), (607, .iconst 0, 1, 0, 0, 0, []), (608, .ireturn, 1, 0, 0, 0, []), (609, .aload_n 1, 1, 0, 0, 0, []), (610, .aload_n 0, 1, 0, 0, 0, []), (611, .iload_n 3, 1, 0, 0, 0, []), (612, .iconst 1, 1, 0, 0, 0, []), (613, .iadd, 1, 0, 0, 0, []), (614, .iaload, 1, 0, 0, 0, []), (615, .invokevirtual 79, 3, 60, 1, 0, [515, 516, 517]), (618, .aload_n 2, 1, 0, 0, 0, []), (619, .aload_n 0, 1, 0, 0, 0, []), (620, .iload_n 3, 1, 0, 0, 0, []), (621, .iconst 1, 1, 0, 0, 0, []), (622, .iadd, 1, 0, 0, 0, []), (623, .iaload, 1, 0, 0, 0, []), (624, .invokevirtual 82, 3, 111, 1, 0, [833, 834, 835]), (627, .if_icmp .eq 222, 3, 565, 0, 0, []), (630, .iconst 0, 1, 0, 0, 0, []), (631, .ireturn, 1, 0, 0, 0, []), (632, .aload_n 1, 1, 0, 0, 0, []), (633, .aload_n 0, 1, 0, 0, 0, []), (634, .iload_n 3, 1, 0, 0, 0, []), (635, .iconst 1, 1, 0, 0, 0, []), (636, .iadd, 1, 0, 0, 0, []), (637, .iaload, 1, 0, 0, 0, []), (638, .invokevirtual 83, 3, 61, 1, 0, [527, 528, 529]), (641, .aload_n 2, 1, 0, 0, 0, []), (642, .aload_n 0, 1, 0, 0, 0, []), (643, .iload_n 3, 1, 0, 0, 0, []), (644, .iconst 1, 1, 0, 0, 0, []), (645, .iadd, 1, 0, 0, 0, []), (646, .iaload, 1, 0, 0, 0, []), (647, .invokevirtual 86, 3, 114, 1, 0, [837, 838, 839]), (650, .if_icmp .eq 199, 3, 565, 0, 0, []), (653, .iconst 0, 1, 0, 0, 0, []), (654, .ireturn, 1, 0, 0, 0, []), (655, .aload_n 1, 1, 0, 0, 0, []), (656, .invokevirtual 87, 3, 62, 0, 0, [564, 565, 566]), (659, .aload_n 2, 1, 0, 0, 0, []), (660, .invokevirtual 90, 3, 115, 0, 0, [848, 849, 850]), (663, .if_icmp .eq 186, 3, 565, 0, 0, []), (666, .iconst 0, 1, 0, 0, 0, []), (667, .ireturn, 1, 0, 0, 0, []), (668, .aload_n 1, 1, 0, 0, 0, []), (669, .aload_n 0, 1, 0, 0, 0, []), (670, .iload_n 3, 1, 0, 0, 0, []), (671, .iconst 1, 1, 0, 0, 0, []), (672, .iadd, 1, 0, 0, 0, []), (673, .iaload, 1, 0, 0, 0, []), (674, .invokevirtual 91, 3, 63, 1, 0, [572, 573, 574]), (677, .aload_n 2, 1, 0, 0, 0, []), (678, .aload_n 0, 1, 0, 0, 0, []), (679, .iload_n 3, 1, 0, 0, 0, []), (680, .iconst 1, 1, 0, 0, 0, []), (681, .iadd, 1, 0, 0, 0, []), (682, .iaload, 1, 0, 0, 0, []), (683, .invokevirtual 94, 3, 118, 1, 0, [852, 853, 854]), (686, .if_icmp .eq 163, 3, 565, 0, 0, []), (689, .iconst 0, 1, 0, 0, 0, []), (690, .ireturn, 1, 0, 0, 0, []), (691, .aload_n 1, 1, 0, 0, 0, []), (692, .invokevirtual 95, 3, 64, 0, 0, [580, 581, 582]), (695, .aload_n 2, 1, 0, 0, 0, []), (696, .invokevirtual 98, 3, 119, 0, 0, [864, 865, 866]), (699, .if_icmp .eq 150, 3, 565, 0, 0, []), (702, .iconst 0, 1, 0, 0, 0, []), (703, .ireturn, 1, 0, 0, 0, []), (704, .aload_n 1, 1, 0, 0, 0, []), (705, .aload_n 0, 1, 0, 0, 0, []), (706, .iload_n 3, 1, 0, 0, 0, []), (707, .iconst 1, 1, 0, 0, 0, []), (708, .iadd, 1, 0, 0, 0, []), (709, .iaload, 1, 0, 0, 0, []), (710, .aload_n 0, 1, 0, 0, 0, []), (711, .iload_n 3, 1, 0, 0, 0, []), (712, .iconst 2, 1, 0, 0, 0, []), (713, .iadd, 1, 0, 0, 0, []), (714, .iaload, 1, 0, 0, 0, []), (715, .invokevirtual 99, 3, 65, 2, 0, [584, 585, 586]), (718, .aload_n 2, 1, 0, 0, 0, []), (719, .aload_n 0, 1, 0, 0, 0, []), (720, .iload_n 3, 1, 0, 0, 0, []), (721, .iconst 1, 1, 0, 0, 0, []), (722, .iadd, 1, 0, 0, 0, []), (723, .iaload, 1, 0, 0, 0, []), (724, .aload_n 0, 1, 0, 0, 0, []), (725, .iload_n 3, 1, 0, 0, 0, []), (726, .iconst 2, 1, 0, 0, 0, []), (727, .iadd, 1, 0, 0, 0, []), (728, .iaload, 1, 0, 0, 0, []), (729, .invokevirtual 102, 3, 124, 2, 0, [868, 869, 870]), (732, .if_icmp .eq 117, 3, 565, 0, 0, []), (735, .iconst 0, 1, 0, 0, 0, []), (736, .ireturn, 1, 0, 0, 0, []), (737, .aload_n 1, 1, 0, 0, 0, []), (738, .aload_n 0, 1, 0, 0, 0, []), (739, .iload_n 3, 1, 0, 0, 0, []), (740, .iconst 1, 1, 0, 0, 0, []), (741, .iadd, 1, 0, 0, 0, []), (742, .iaload, 1, 0, 0, 0, []), (743, .aload_n 0, 1, 0, 0, 0, []), (744, .iload_n 3, 1, 0, 0, 0, []), (745, .iconst 2, 1, 0, 0, 0, []), (746, .iadd, 1, 0, 0, 0, []), (747, .iaload, 1, 0, 0, 0, []), (748, .invokevirtual 103, 3, 66, 2, 0, [599, 600, 601]), (751, .aload_n 2, 1, 0, 0, 0, []), (752, .aload_n 0, 1, 0, 0, 0, []), (753, .iload_n 3, 1, 0, 0, 0, []), (754, .iconst 1, 1, 0, 0, 0, []), (755, .iadd, 1, 0, 0, 0, []), (756, .iaload, 1, 0, 0, 0, []), (757, .aload_n 0, 1, 0, 0, 0, []), (758, .iload_n 3, 1, 0, 0, 0, []), (759, .iconst 2, 1, 0, 0, 0, []), (760, .iadd, 1, 0, 0, 0, []), (761, .iaload, 1, 0, 0, 0, []), (762, .invokevirtual 106, 3, 125, 2, 0, [879, 880, 881]), (765, .if_icmp .eq 84, 3, 565, 0, 0, []), (768, .iconst 0, 1, 0, 0, 0, []), (769, .ireturn, 1, 0, 0, 0, []), (770, .aload_n 1, 1, 0, 0, 0, []), (771, .aload_n 0, 1, 0, 0, 0, []), (772, .iload_n 3, 1, 0, 0, 0, []), (773, .iconst 1, 1, 0, 0, 0, []), (774, .iadd, 1, 0, 0, 0, []), (775, .iaload, 1, 0, 0, 0, []), (776, .invokevirtual 107, 3, 67, 1, 0, [603, 604, 605]), (779, .aload_n 2, 1, 0, 0, 0, []), (780, .aload_n 0, 1, 0, 0, 0, []), (781, .iload_n 3, 1, 0, 0, 0, []), (782, .iconst 1, 1, 0, 0, 0, []), (783, .iadd, 1, 0, 0, 0, []), (784, .iaload, 1, 0, 0, 0, []), (785, .invokevirtual 110, 3, 127, 1, 0, [883, 884, 885]), (788, .if_icmp .eq 61, 3, 565, 0, 0, []), (791, .iconst 0, 1, 0, 0, 0, []), (792, .ireturn, 1, 0, 0, 0, []), (793, .aload_n 1, 1, 0, 0, 0, []), (794, .aload_n 0, 1, 0, 0, 0, []), (795, .iload_n 3, 1, 0, 0, 0, []), (796, .iconst 1, 1, 0, 0, 0, []), (797, .iadd, 1, 0, 0, 0, []), (798, .iaload, 1, 0, 0, 0, []), (799, .aload_n 0, 1, 0, 0, 0, []), (800, .iload_n 3, 1, 0, 0, 0, []), (801, .iconst 2, 1, 0, 0, 0, []), (802, .iadd, 1, 0, 0, 0, []), (803, .iaload, 1, 0, 0, 0, []), (804, .invokevirtual 111, 3, 68, 2, 0, [620, 621, 622]), (807, .aload_n 2, 1, 0, 0, 0, []), (808, .aload_n 0, 1, 0, 0, 0, []), (809, .iload_n 3, 1, 0, 0, 0, []), (810, .iconst 1, 1, 0, 0, 0, []), (811, .iadd, 1, 0, 0, 0, []), (812, .iaload, 1, 0, 0, 0, []), (813, .aload_n 0, 1, 0, 0, 0, []), (814, .iload_n 3, 1, 0, 0, 0, []), (815, .iconst 2, 1, 0, 0, 0, []), (816, .iadd, 1, 0, 0, 0, []), (817, .iaload, 1, 0, 0, 0, []), (818, .invokevirtual 114, 3, 128, 2, 0, [891, 892, 893]), (821, .if_icmp .eq 28, 3, 565, 0, 0, []), (824, .iconst 0, 1, 0, 0, 0, []), (825, .ireturn, 1, 0, 0, 0, []), (826, .aload_n 1, 1, 0, 0, 0, []), (827, .aload_n 0, 1, 0, 0, 0, []), (828, .iload_n 3, 1, 0, 0, 0, []), (829, .iconst 1, 1, 0, 0, 0, []), (830, .iadd, 1, 0, 0, 0, []), (831, .iaload, 1, 0, 0, 0, []), (832, .invokevirtual 115, 3, 69, 1, 0, [624, 625, 626]), (835, .aload_n 2, 1, 0, 0, 0, []), (836, .aload_n 0, 1, 0, 0, 0, []), (837, .iload_n 3, 1, 0, 0, 0, []), (838, .iconst 1, 1, 0, 0, 0, []), (839, .iadd, 1, 0, 0, 0, []), (840, .iaload, 1, 0, 0, 0, []), (841, .invokevirtual 118, 3, 129, 1, 0, [895, 896, 897]), (844, .if_icmp .eq 5, 3, 565, 0, 0, []), (847, .iconst 0, 1, 0, 0, 0, []), (848, .ireturn, 1, 0, 0, 0, []), (849, .iinc 3 6, 3, 0, 0, 0, []), (852, .goto (-834), 3, 10, 0, 0, []), (855, .iconst 1, 1, 0, 0, 0, []), (856, .ireturn, 1, 0, 0, 0, [])]
def am_tabs : List (List am_En) := [am_t0, am_t1, am_t2, am_t3, am_t4, am_t5, am_t6, am_t7, am_t8, am_t9, am_t10, am_t11, am_t12, am_t13, am_t14, am_t15, am_t16, am_t17, am_t18, am_t19, am_t20, am_t21, am_t22, am_t23, am_t24, am_t25, am_t26, am_t27, am_t28, am_t29, am_t30, am_t31, am_t32, am_t33, am_t34, am_t35, am_t36, am_t37, am_t38, am_t39, am_t40, am_t41, am_t42, am_t43, am_t44, am_t45, am_t46, am_t47, am_t48, am_t49, am_t50, am_t51, am_t52, am_t53, am_t54, am_t55, am_t56, am_t57, am_t58, am_t59, am_t60, am_t61, am_t62, am_t63, am_t64, am_t65, am_t66, am_t67, am_t68, am_t69, am_t70, am_t71, am_t72, am_t73, am_t74, am_t75, am_t76, am_t77, am_t78, am_t79, am_t80, am_t81, am_t82, am_t83, am_t84, am_t85, am_t86, am_t87, am_t88, am_t89, am_t90, am_t91, am_t92, am_t93, am_t94, am_t95, am_t96, am_t97, am_t98, am_t99, am_t100, am_t101, am_t102, am_t103, am_t104, am_t105, am_t106, am_t107, am_t108, am_t109, am_t110, am_t111, am_t112, am_t113, am_t114, am_t115, am_t116, am_t117, am_t118, am_t119, am_t120, am_t121, am_t122, am_t123, am_t124, am_t125, am_t126, am_t127, am_t128, am_t129, am_t130, am_t131]
abbrev am_Me : Type := MethodName × ByteArray × Nat × Option FieldType × Nat × List Nat
def am_mets : List am_Me := [(yX0_asSet, cX0_asSet, 3, (some .int), 0, [379, 48]),
  (yX0_holds, cX0_holds, 2, (some .boolean), 0, [375, 48]),
  (yX0_placeFor, cX0_placeFor, 5, (some .int), 0, [594, 48]),
  (yX0_insert, cX0_insert, 4, none, 0, [598, 48]),
  (yX0_remove, cX0_remove, 4, none, 0, [358, 48]),
  (yX0_receive, cX0_receive, 2, none, 0, [615, 48]),
  (yX1_lightest, cX1_lightest, 1, (some .int), 1, [534, 46]),
  (yX1_unsparable, cX1_unsparable, 4, (some .int), 1, [571, 46]),
  (yX1_seek, cX1_seek, 5, none, 1, [537, 46]),
  (yX1_isBeatenBy, cX1_isBeatenBy, 3, (some .boolean), 1, [541, 46]),
  (yX1_become, cX1_become, 2, none, 1, [555, 46]),
  (yX1_agreeing, cX1_agreeing, 2, (some .boolean), 1, [560, 46]),
  (yX2_has, cX2_has, 2, (some .boolean), 2, [316, 42]),
  (yX3_has, cX3_has, 2, (some .boolean), 3, [334, 43]),
  (yX3_isInForce, cX3_isInForce, 2, (some .boolean), 3, [338, 43]),
  (yX3_names, cX3_names, 3, (some .boolean), 3, [354, 43]),
  (yX3_anyNames, cX3_anyNames, 3, (some .boolean), 3, [350, 43]),
  (yX3_inForceNaming, cX3_inForceNaming, 4, (some .int), 3, [366, 43]),
  (yX3_weightOf, cX3_weightOf, 4, (some .int), 3, [545, 43]),
  (yX4_take, cX4_take, 4, none, 4, [505, 47]),
  (yX4_howMany, cX4_howMany, 4, (some .int), 4, [510, 47]),
  (yX4_ofFirst, cX4_ofFirst, 5, (some .int), 4, [522, 47]),
  (yX4_firstNext, cX4_firstNext, 3, (some .int), 4, [526, 47]),
  (yX4_comesNext, cX4_comesNext, 3, (some .boolean), 4, [514, 47]),
  (yX5_exist, cX5_exist, 1, (some .boolean), 5, [391, 44]),
  (yX5_allow, cX5_allow, 3, (some .boolean), 5, [445, 44]),
  (yX5_daysOpenTo, cX5_daysOpenTo, 2, (some .int), 5, [477, 44]),
  (yX5_leastGap, cX5_leastGap, 3, (some .int), 5, [485, 44]),
  (yX5_greatestRest, cX5_greatestRest, 2, (some .int), 5, [579, 44]),
  (yX5_thoseAheadOf, cX5_thoseAheadOf, 4, (some .int), 5, [493, 44]),
  (yX5_thoseBehind, cX5_thoseBehind, 4, (some .int), 5, [497, 44]),
  (yX5_sweep, cX5_sweep, 2, none, 5, [449, 44]),
  (yX5_sweepUp, cX5_sweepUp, 4, none, 5, [453, 44]),
  (yX5_lowerGaps, cX5_lowerGaps, 4, none, 5, [463, 44]),
  (yX5_sweepDown, cX5_sweepDown, 4, none, 5, [467, 44]),
  (yX5_sumOfDays, cX5_sumOfDays, 3, (some .int), 5, [459, 44]),
  (yX6_weave, cX6_weave, 5, none, 6, [395, 45]),
  (yX6_heed, cX6_heed, 5, none, 6, [399, 45]),
  (yX6_link, cX6_link, 4, none, 6, [403, 45]),
  (yX6_least, cX6_least, 3, (some .boolean), 6, [413, 45]),
  (yX6_greatest, cX6_greatest, 3, none, 6, [425, 45]),
  (yX6_rise, cX6_rise, 7, (some .boolean), 6, [421, 45]),
  (yX6_sink, cX6_sink, 7, none, 6, [433, 45]),
  (yX6_notBefore, cX6_notBefore, 3, (some .int), 6, [417, 45]),
  (yX6_notBehind, cX6_notBehind, 3, (some .int), 6, [429, 45]),
  (yX7_letter, cX7_letter, 4, (some .int), 7, [301, 41]),
  (yX7_stamp, cX7_stamp, 5, (some .int), 7, [312, 41]),
  (yX7_note, cX7_note, 7, (some .int), 7, [320, 41]),
  (yX7_force, cX7_force, 3, (some .int), 7, [330, 41]),
  (yX7_unnote, cX7_unnote, 1, (some .int), 7, [342, 41]),
  (yX7_unletter, cX7_unletter, 3, (some .int), 7, [346, 41]),
  (yX7_ofLetter, cX7_ofLetter, 3, (some .int), 7, [362, 41]),
  (yX7_ofNote, cX7_ofNote, 3, (some .int), 7, [383, 41]),
  (yX7_agree, cX7_agree, 1, (some .int), 7, [387, 41]),
  (yX7_day, cX7_day, 3, (some .int), 7, [437, 41]),
  (yX7_can, cX7_can, 3, (some .int), 7, [441, 41]),
  (yX7_left, cX7_left, 2, (some .int), 7, [473, 41]),
  (yX7_gap, cX7_gap, 3, (some .int), 7, [481, 41]),
  (yX7_ahead, cX7_ahead, 3, (some .int), 7, [489, 41]),
  (yX7_orders, cX7_orders, 1, (some .int), 7, [501, 41]),
  (yX7_order, cX7_order, 2, (some .int), 7, [518, 41]),
  (yX7_knot, cX7_knot, 3, (some .int), 7, [530, 41]),
  (yX7_core, cX7_core, 1, (some .int), 7, [567, 41]),
  (yX7_worst, cX7_worst, 2, (some .int), 7, [575, 41]),
  (yX7_best, cX7_best, 5, (some .int), 7, [583, 41]),
  (yX7_tie, cX7_tie, 5, (some .int), 7, [587, 41]),
  (yX7_untie, cX7_untie, 4, (some .int), 7, [602, 41]),
  (yX7_spread, cX7_spread, 8, (some .int), 7, [606, 41]),
  (yX7_lies, cX7_lies, 3, (some .int), 7, [623, 41]),
  (yX7_many, cX7_many, 2, (some .int), 7, [627, 41]),
  (yX7_isStamp, cX7_isStamp, 2, (some .boolean), 7, [304, 41]),
  (yX7_isBundle, cX7_isBundle, 1, (some .boolean), 7, [590, 41]),
  (yX7_isOfTwo, cX7_isOfTwo, 1, (some .boolean), 7, [323, 41]),
  (yX7_greatestNumber, cX7_greatestNumber, 1, (some .int), 7, [326, 41]),
  (yX7_forgetAnswers, cX7_forgetAnswers, 1, none, 7, [308, 41]),
  (yX7_bundlesWith, cX7_bundlesWith, 4, (some .int), 7, [371, 41]),
  (yX7_leavingOf, cX7_leavingOf, 6, (some .int), 7, [610, 41]),
  (yX8_within, cX8_within, 3, (some .boolean), 8, [699, 49]),
  (yX8_isLetter, cX8_isLetter, 2, (some .boolean), 8, [707, 49]),
  (yX8_isNote, cX8_isNote, 2, (some .boolean), 8, [719, 49]),
  (yX8_isStamp, cX8_isStamp, 2, (some .boolean), 8, [696, 49]),
  (yX8_letter, cX8_letter, 3, (some .int), 8, [693, 49]),
  (yX8_stamp, cX8_stamp, 5, (some .int), 8, [703, 49]),
  (yX8_note, cX8_note, 8, (some .int), 8, [711, 49]),
  (yX8_force, cX8_force, 3, (some .int), 8, [715, 49]),
  (yX8_unnote, cX8_unnote, 1, (some .int), 8, [723, 49]),
  (yX8_unletter, cX8_unletter, 2, (some .int), 8, [727, 49]),
  (yX8_notesAbout, cX8_notesAbout, 4, (some .int), 8, [743, 49]),
  (yX8_bundlesOf, cX8_bundlesOf, 4, (some .int), 8, [747, 49]),
  (yX8_ofLetter, cX8_ofLetter, 3, (some .int), 8, [739, 49]),
  (yX8_ofNote, cX8_ofNote, 3, (some .int), 8, [751, 49]),
  (yX8_bounds, cX8_bounds, 5, none, 8, [776, 49]),
  (yX8_takesNote, cX8_takesNote, 5, none, 8, [780, 49]),
  (yX8_setInForce, cX8_setInForce, 3, (some .int), 8, [763, 49]),
  (yX8_isNode, cX8_isNode, 2, (some .boolean), 8, [788, 49]),
  (yX8_begins, cX8_begins, 3, none, 8, [771, 49]),
  (yX8_draws, cX8_draws, 5, (some .boolean), 8, [784, 49]),
  (yX8_bindsWeek, cX8_bindsWeek, 6, (some .boolean), 8, [792, 49]),
  (yX8_close, cX8_close, 6, (some .boolean), 8, [767, 49]),
  (yX8_closeNow, cX8_closeNow, 1, (some .boolean), 8, [759, 49]),
  (yX8_earliest, cX8_earliest, 2, (some .int), 8, [800, 49]),
  (yX8_latest, cX8_latest, 2, (some .int), 8, [804, 49]),
  (yX8_agree, cX8_agree, 1, (some .int), 8, [755, 49]),
  (yX8_day, cX8_day, 3, (some .int), 8, [796, 49]),
  (yX8_can, cX8_can, 3, (some .int), 8, [808, 49]),
  (yX8_left, cX8_left, 5, (some .int), 8, [812, 49]),
  (yX8_findGaps, cX8_findGaps, 8, none, 8, [820, 49]),
  (yX8_gap, cX8_gap, 3, (some .int), 8, [816, 49]),
  (yX8_findAhead, cX8_findAhead, 3, none, 8, [828, 49]),
  (yX8_ahead, cX8_ahead, 5, (some .int), 8, [824, 49]),
  (yX8_orders, cX8_orders, 5, (some .int), 8, [832, 49]),
  (yX8_order, cX8_order, 5, (some .int), 8, [836, 49]),
  (yX8_manyOf, cX8_manyOf, 3, (some .int), 8, [847, 49]),
  (yX8_weightBy, cX8_weightBy, 4, (some .int), 8, [844, 49]),
  (yX8_knot, cX8_knot, 7, (some .int), 8, [840, 49]),
  (yX8_core, cX8_core, 4, (some .int), 8, [851, 49]),
  (yX8_widthAll, cX8_widthAll, 3, (some .int), 8, [863, 49]),
  (yX8_worstOf, cX8_worstOf, 6, (some .int), 8, [859, 49]),
  (yX8_worst, cX8_worst, 2, (some .int), 8, [855, 49]),
  (yX8_best, cX8_best, 5, (some .int), 8, [867, 49]),
  (yX8_isBundle, cX8_isBundle, 1, (some .boolean), 8, [874, 49]),
  (yX8_placeIn, cX8_placeIn, 4, (some .int), 8, [731, 49]),
  (yX8_takesOut, cX8_takesOut, 4, none, 8, [735, 49]),
  (yX8_putsIn, cX8_putsIn, 5, none, 8, [878, 49]),
  (yX8_tie, cX8_tie, 7, (some .int), 8, [871, 49]),
  (yX8_untie, cX8_untie, 4, (some .int), 8, [882, 49]),
  (yX8_setIn, cX8_setIn, 4, (some .int), 8, [890, 49]),
  (yX8_spread, cX8_spread, 8, (some .int), 8, [886, 49]),
  (yX8_lies, cX8_lies, 3, (some .int), 8, [894, 49]),
  (yX8_many, cX8_many, 2, (some .int), 8, [898, 49]),
  (yJ6_bitCount_0f7a4, cJ6_bitCount_0f7a4, 1, (some .int), 99, [548, 51]),
  (yL_law, cL_law, 4, (some .boolean), 99, [0, 0])]
end
section
/-! the abstract machine: values are whole numbers or cells by their numbers; the state: cell, place, number -/
abbrev am_V : Type := Int ⊕ Nat
abbrev am_S : Type := Nat → Int → Int
abbrev am_Q : Type := Option Int → am_S → Prop
abbrev am_KT : Type := Nat → Nat → Nat → List am_V → List am_V → am_S → am_Q → Prop
abbrev am_L : Type := Nat × Nat × List (Option Nat)
def am_us (σ : am_S) (k : Nat) (i x : Int) : am_S := fun k' j => if k' = k ∧ j = i then x else σ k' j
def am_rng (x : Int) : Prop := -2147483648 ≤ x ∧ x ≤ 2147483647
def am_tab (μ : Nat) : List am_En := (am_tabs[μ]?).getD []
def am_met (μ : Nat) : am_Me := (am_mets[μ]?).getD (⟨"", "", ""⟩, ⟨#[]⟩, 0, none, 99, [])
def am_law : Nat := 131
def am_NC : Nat := 60
/-- the cells: kind (0 an object, 1 ints, 2 booleans, 3 references, 4 the script), class or length, references -/
def am_lay : List am_L := [
  (0, 7, [some 1, some 4, some 10, some 25, some 34, some 37]),
  (0, 2, [none, some 2, some 3]),
  (1, 8, []),
  (1, 8, []),
  (0, 3, [none, none, some 5, some 6, some 7, some 8, some 9]),
  (1, 10, []),
  (1, 10, []),
  (1, 10, []),
  (1, 10, []),
  (1, 10, []),
  (0, 5, [none, some 11, some 12, some 1, some 4, some 18, none, none, some 13, some 14, some 15, some 16, some 17]),
  (1, 8, []),
  (1, 8, []),
  (1, 8, []),
  (1, 1600, []),
  (1, 8, []),
  (1, 64, []),
  (1, 8, []),
  (0, 6, [none, none, some 19, some 20, some 21, none, some 22, some 23, some 24]),
  (1, 8, []),
  (1, 8, []),
  (1, 8, []),
  (1, 20, []),
  (1, 20, []),
  (1, 20, []),
  (0, 1, [none, some 1, some 4, some 27, some 26, none, none, none, none]),
  (1, 8, []),
  (0, 6, [none, none, some 28, some 29, some 30, none, some 31, some 32, some 33]),
  (1, 8, []),
  (1, 8, []),
  (1, 8, []),
  (1, 20, []),
  (1, 20, []),
  (1, 20, []),
  (0, 4, [none, some 35, some 36]),
  (1, 8, []),
  (1, 256, []),
  (3, 3, [some 38, some 40, some 42]),
  (0, 0, [none, some 39]),
  (1, 8, []),
  (0, 0, [none, some 41]),
  (1, 8, []),
  (0, 0, [none, some 43]),
  (1, 8, []),
  (0, 8, [none, some 45, some 46, none, some 47, some 48, some 49, some 50, some 51, some 52, some 53, some 54, none, some 55, some 56, some 57, some 58, some 59]),
  (1, 8, []),
  (1, 8, []),
  (1, 10, []),
  (1, 10, []),
  (1, 10, []),
  (1, 10, []),
  (1, 10, []),
  (2, 10, []),
  (1, 81, []),
  (1, 9, []),
  (1, 8, []),
  (1, 8, []),
  (1, 256, []),
  (1, 3, []),
  (1, 24, []),
  (4, 0, [])]
def am_lset : List am_V → Nat → am_V → List am_V
  | [], 0, v => [v]
  | [], _ + 1, _ => []
  | _ :: xs, 0, v => v :: xs
  | x :: xs, k + 1, v => x :: am_lset xs k v
def am_gi (lv : List am_V) (a : Nat) (f : Int → Prop) : Prop := match lv[a]? with
  | some (.inl x) => f x
  | _ => False
def am_gr (lv : List am_V) (a : Nat) (f : Nat → Prop) : Prop := match lv[a]? with
  | some (.inr r) => f r
  | _ => False
def am_p1 (st : List am_V) (f : Int → List am_V → Prop) : Prop := match st with
  | .inl x :: st' => f x st'
  | _ => False
def am_r1 (st : List am_V) (f : Nat → List am_V → Prop) : Prop := match st with
  | .inr r :: st' => f r st'
  | _ => False
def am_p2 (st : List am_V) (f : Int → Int → List am_V → Prop) : Prop := match st with
  | .inl y :: .inl x :: st' => f x y st'
  | _ => False
/-- number, cell -/
def am_pr (st : List am_V) (f : Int → Nat → List am_V → Prop) : Prop := match st with
  | .inl x :: .inr r :: st' => f x r st'
  | _ => False
/-- number, index, cell -/
def am_pir (st : List am_V) (f : Int → Int → Nat → List am_V → Prop) : Prop := match st with
  | .inl x :: .inl i :: .inr r :: st' => f x i r st'
  | _ => False
def am_g (b : Bool) (P : Prop) : Prop := match b with
  | true => P
  | false => False
def am_rel (c : ClassFile.Cond) (x y : Int) : Prop := match c with
  | .eq => x = y
  | .ne => x ≠ y
  | .lt => x < y
  | .ge => y ≤ x
  | .gt => y < x
  | .le => x ≤ y
def am_br (c : ClassFile.Cond) (x y : Int) (T F : Prop) : Prop := match c with
  | .eq => am_rng x ∧ am_rng y ∧ (x = y → T) ∧ (x ≠ y → F)
  | .ne => am_rng x ∧ am_rng y ∧ (x ≠ y → T) ∧ (x = y → F)
  | .lt => am_rng x ∧ am_rng y ∧ (x < y → T) ∧ (y ≤ x → F)
  | .ge => am_rng x ∧ am_rng y ∧ (y ≤ x → T) ∧ (x < y → F)
  | .gt => am_rng x ∧ am_rng y ∧ (y < x → T) ∧ (x ≤ y → F)
  | .le => am_rng x ∧ am_rng y ∧ (x ≤ y → T) ∧ (y < x → F)
def am_and (x y : Int) : Int := (Int32.ofInt x &&& Int32.ofInt y).toInt
def am_or (x y : Int) : Int := (Int32.ofInt x ||| Int32.ofInt y).toInt
def am_xor (x y : Int) : Int := (Int32.ofInt x ^^^ Int32.ofInt y).toInt
def am_shl (x y : Int) : Int := (Int32.ofInt x <<< (Int32.ofInt y &&& 31)).toInt
def am_shr (x y : Int) : Int := (Int32.ofInt x >>> (Int32.ofInt y &&& 31)).toInt
def am_ushr (x y : Int) : Int := ((Int32.ofInt x).toUInt32 >>> ((Int32.ofInt y).toUInt32 &&& Int32.toUInt32 31)).toInt32.toInt
def am_sw (x : Int) (f : Nat → Prop) : Int → List Nat → Prop
  | _, [] => True
  | i, t :: ts => (x = i → f t) ∧ am_sw x f (i + 1) ts
def am_o : Option Int → List am_V
  | some x => [.inl x]
  | none => []
def am_rz (μ : Nat) (x : Int) : Prop := match (am_met μ).2.2.2.1 with
  | some .boolean => x = 0 ∨ x = 1
  | _ => True
def am_fld (r ci y : Nat) (fr : Nat → Prop) (fi : Prop) : Prop := match am_lay[r]? with
  | some (0, c, refs) => am_g (Nat.beq c ci) (match refs[y]? with
    | some (some t) => fr t
    | some none => fi
    | none => False)
  | _ => False
def am_isO (r ci : Nat) : Bool := match am_lay[r]? with
  | some (0, c, _) => Nat.beq c ci
  | _ => false
def am_ins (K : am_KT) (d μ k : Nat) (lv st : List am_V) (σ : am_S) (Q : am_Q) (i : Instr) (x y : Nat) (c : Int) (z : List Nat) : Prop := match i with
  | .iconst n => K d μ (k + 1) lv (.inl n :: st) σ Q
  | .bipush n => K d μ (k + 1) lv (.inl n :: st) σ Q
  | .sipush n => K d μ (k + 1) lv (.inl n :: st) σ Q
  | .ldc _ => K d μ (k + 1) lv (.inl c :: st) σ Q
  | .ldc_w _ => K d μ (k + 1) lv (.inl c :: st) σ Q
  | .iload_n a => am_gi lv a.val fun v => K d μ (k + 1) lv (.inl v :: st) σ Q
  | .iload a => am_gi lv a fun v => K d μ (k + 1) lv (.inl v :: st) σ Q
  | .aload_n a => am_gr lv a.val fun v => K d μ (k + 1) lv (.inr v :: st) σ Q
  | .aload a => am_gr lv a fun v => K d μ (k + 1) lv (.inr v :: st) σ Q
  | .istore_n a => am_p1 st fun v st' => K d μ (k + 1) (am_lset lv a.val (.inl v)) st' σ Q
  | .istore a => am_p1 st fun v st' => K d μ (k + 1) (am_lset lv a (.inl v)) st' σ Q
  | .astore_n a => am_r1 st fun v st' => K d μ (k + 1) (am_lset lv a.val (.inr v)) st' σ Q
  | .astore a => am_r1 st fun v st' => K d μ (k + 1) (am_lset lv a (.inr v)) st' σ Q
  | .iinc a n => am_gi lv a fun v => K d μ (k + 1) (am_lset lv a (.inl (v + n))) st σ Q
  | .iadd => am_p2 st fun a b st' => K d μ (k + 1) lv (.inl (a + b) :: st') σ Q
  | .isub => am_p2 st fun a b st' => K d μ (k + 1) lv (.inl (a - b) :: st') σ Q
  | .imul => am_p2 st fun a b st' => K d μ (k + 1) lv (.inl (a * b) :: st') σ Q
  | .idiv => am_p2 st fun a b st' => am_rng a ∧ am_rng b ∧ b ≠ 0 ∧ K d μ (k + 1) lv (.inl (a.tdiv b) :: st') σ Q
  | .irem => am_p2 st fun a b st' => am_rng a ∧ am_rng b ∧ b ≠ 0 ∧ K d μ (k + 1) lv (.inl (a.tmod b) :: st') σ Q
  | .ineg => am_p1 st fun a st' => K d μ (k + 1) lv (.inl (-a) :: st') σ Q
  | .iand => am_p2 st fun a b st' => K d μ (k + 1) lv (.inl (am_and a b) :: st') σ Q
  | .ior => am_p2 st fun a b st' => K d μ (k + 1) lv (.inl (am_or a b) :: st') σ Q
  | .ixor => am_p2 st fun a b st' => K d μ (k + 1) lv (.inl (am_xor a b) :: st') σ Q
  | .ishl => am_p2 st fun a b st' => K d μ (k + 1) lv (.inl (am_shl a b) :: st') σ Q
  | .ishr => am_p2 st fun a b st' => K d μ (k + 1) lv (.inl (am_shr a b) :: st') σ Q
  | .iushr => am_p2 st fun a b st' => K d μ (k + 1) lv (.inl (am_ushr a b) :: st') σ Q
  | .if_icmp r _ => am_p2 st fun a b st' => am_br r a b (K d μ x lv st' σ Q) (K d μ (k + 1) lv st' σ Q)
  | .ifCond r _ => am_p1 st fun a st' => am_br r a 0 (K d μ x lv st' σ Q) (K d μ (k + 1) lv st' σ Q)
  | .goto _ => K d μ x lv st σ Q
  | .tableswitch _ lo _ _ => am_p1 st fun a st' => am_rng a ∧ am_sw a (fun t => K d μ t lv st' σ Q) lo z ∧ (a < lo ∨ lo + (z.length : Int) ≤ a → K d μ x lv st' σ Q)
  | .getfield _ => am_r1 st fun r st' => am_fld r x y (fun t => K d μ (k + 1) lv (.inr t :: st') σ Q) (K d μ (k + 1) lv (.inl (σ r y) :: st') σ Q)
  | .putfield _ => am_pr st fun v r st' => am_fld r x y (fun _ => False) (match z with
      | [_, 0] => K d μ (k + 1) lv st' (am_us σ r y v) Q
      | _ => (v = 0 ∨ v = 1) ∧ K d μ (k + 1) lv st' (am_us σ r y v) Q)
  | .iaload => am_pr st fun v r st' => (match am_lay[r]? with
      | some (1, n, _) => (0 ≤ v ∧ v < n) ∧ K d μ (k + 1) lv (.inl (σ r v) :: st') σ Q
      | some (4, _, _) => am_g (Nat.beq μ am_law) ((0 ≤ v ∧ v < σ am_NC (-1)) ∧ K d μ (k + 1) lv (.inl (σ am_NC v) :: st') σ Q)
      | _ => False)
  | .baload => am_pr st fun v r st' => (match am_lay[r]? with
      | some (2, n, _) => (0 ≤ v ∧ v < n) ∧ K d μ (k + 1) lv (.inl (σ r v) :: st') σ Q
      | _ => False)
  | .aaload => am_pr st fun v r st' => (match am_lay[r]? with
      | some (3, n, refs) => (0 ≤ v ∧ v < n) ∧ (match refs[v.toNat]? with
        | some (some t) => K d μ (k + 1) lv (.inr t :: st') σ Q
        | _ => False)
      | _ => False)
  | .iastore => am_pir st fun v j r st' => (match am_lay[r]? with
      | some (1, n, _) => (0 ≤ j ∧ j < n) ∧ K d μ (k + 1) lv st' (am_us σ r j v) Q
      | _ => False)
  | .bastore => am_pir st fun v j r st' => (match am_lay[r]? with
      | some (2, n, _) => (0 ≤ j ∧ j < n) ∧ (v = 0 ∨ v = 1) ∧ K d μ (k + 1) lv st' (am_us σ r j v) Q
      | _ => False)
  | .arraylength => am_r1 st fun r st' => am_g (Nat.beq μ am_law && Nat.beq r am_NC) (K d μ (k + 1) lv (.inl (σ am_NC (-1)) :: st') σ Q)
  | .dup => (match st with
      | v :: st' => K d μ (k + 1) lv (v :: v :: st') σ Q
      | _ => False)
  | .dup2 => (match st with
      | v :: w :: st' => K d μ (k + 1) lv (v :: w :: v :: w :: st') σ Q
      | _ => False)
  | .pop => (match st with
      | _ :: st' => K d μ (k + 1) lv st' σ Q
      | _ => False)
  | .ireturn => (match st with
      | [.inl v] => am_rz μ v ∧ Q (some v) σ
      | _ => False)
  | .return_ => (match st with
      | [] => Q none σ
      | _ => False)
  | .invokevirtual _ => (match d with
      | 0 => False
      | d' + 1 => am_r1 (st.drop y) fun r st' => am_g (am_isO r (am_met x).2.2.2.2.1 && Nat.ble st'.length 8 && Nat.ble y st.length)
        (K d' x 0 (.inr r :: (st.take y).reverse) [] σ fun o σ' => K (d' + 1) μ (k + 1) lv (am_o o ++ st') σ' Q))
  | .invokestatic _ => (match d with
      | 0 => False
      | d' + 1 => (match Nat.beq x 1000 with
        | true => am_p2 st fun a b st' => am_g (Nat.ble st'.length 8) (am_rng a ∧ am_rng b ∧ K (d' + 1) μ (k + 1) lv (.inl (max a b) :: st') σ Q)
        | false => (match Nat.beq x 1001 with
          | true => am_p2 st fun a b st' => am_g (Nat.ble st'.length 8) (am_rng a ∧ am_rng b ∧ K (d' + 1) μ (k + 1) lv (.inl (min a b) :: st') σ Q)
          | false => am_g (Nat.ble (st.drop y).length 8 && Nat.ble y st.length)
            (K d' x 0 (st.take y).reverse [] σ fun o σ' => K (d' + 1) μ (k + 1) lv (am_o o ++ st.drop y) σ' Q))))
  | _ => False
def am_stp (K : am_KT) (d μ k : Nat) (lv st : List am_V) (σ : am_S) (Q : am_Q) : Prop := match (am_tab μ)[k]? with
  | some e => am_ins K d μ k lv st σ Q e.2.1 e.2.2.2.1 e.2.2.2.2.1 e.2.2.2.2.2.1 e.2.2.2.2.2.2
  | none => False
/-- closed under the steps; less may be said of the locals, more of the end -/
def am_C (K : am_KT) : Prop :=
  (∀ d μ k lv st σ Q, am_stp K d μ k lv st σ Q → K d μ k lv st σ Q) ∧
  (∀ d μ k lv lv' st σ Q, K d μ k lv st σ Q → K d μ k (lv ++ lv') st σ Q) ∧
  (∀ d μ k lv st σ (Q Q' : am_Q), (∀ o σ', Q o σ' → Q' o σ') → K d μ k lv st σ Q → K d μ k lv st σ Q')
end
section
def am_pc (μ k : Nat) : Nat := (((am_tab μ)[k]?).map fun e => e.1).getD 0
def am_wat (i : Nat) (w : Jvm.Cond) : Bool := decide (lw_tbl[i]? = some w) && goodWord w
theorem am_wat_in {i : Nat} {w : Jvm.Cond} (h : am_wat i w = true) : w ∈ am_tbl := by
  obtain ⟨h1, h2⟩ := Bool.and_eq_true_iff.mp h
  exact List.mem_filter.mpr ⟨List.mem_of_getElem? (of_decide_eq_true h1), h2⟩
def am_T (ci : Nat) : vw_C := (am_cls[ci]?).getD ("", fun _ => ("", "", "", false), 0)
def am_nx (μ k pc n len : Nat) : Bool := Nat.beq len n && Nat.beq (am_pc μ (k + 1)) (pc + n)
def am_z (z : List Nat) (i : Nat) : Nat := (z[i]?).getD 0
def am_okI (μ k pc len : Nat) (i : Instr) (x y : Nat) (c : Int) (z : List Nat) : Bool := match i with
  | .iconst _ => am_nx μ k pc 1 len
  | .bipush n => am_nx μ k pc 2 len && decide ((Int8.ofInt n).toInt32 = Int32.ofInt n)
  | .sipush n => am_nx μ k pc 3 len && decide ((Int16.ofInt n).toInt32 = Int32.ofInt n)
  | .ldc i => am_nx μ k pc 2 len && am_wat (am_z z 0) (.constant (am_met μ).1.cls i (Int32.ofInt c))
  | .ldc_w i => am_nx μ k pc 3 len && am_wat (am_z z 0) (.constant (am_met μ).1.cls i (Int32.ofInt c))
  | .iload _ => am_nx μ k pc 2 len
  | .aload _ => am_nx μ k pc 2 len
  | .istore a => am_nx μ k pc 2 len && decide (a < (am_met μ).2.2.1)
  | .astore a => am_nx μ k pc 2 len && decide (a < (am_met μ).2.2.1)
  | .istore_n a => am_nx μ k pc 1 len && decide (a.val < (am_met μ).2.2.1)
  | .astore_n a => am_nx μ k pc 1 len && decide (a.val < (am_met μ).2.2.1)
  | .iinc a _ => am_nx μ k pc 3 len && decide (a < (am_met μ).2.2.1)
  | .goto off => Nat.beq len 3 && decide ((pc : Int) + off = (am_pc μ x : Int))
  | .if_icmp _ off => am_nx μ k pc 3 len && decide ((pc : Int) + off = (am_pc μ x : Int))
  | .ifCond _ off => am_nx μ k pc 3 len && decide ((pc : Int) + off = (am_pc μ x : Int))
  | .tableswitch dflt lo hi offs => decide ((pc : Int) + dflt = (am_pc μ x : Int)) && decide (hi = lo + (z.length : Int) - 1) && decide (offs.toList.map (fun o => (pc : Int) + o) = z.map (fun t => (am_pc μ t : Int)))
  | .new _ => am_nx μ k pc 3 len
  | .invokespecial _ => am_nx μ k pc 3 len
  | .getfield i => am_nx μ k pc 3 len && am_wat (am_z z 0) (.fieldLink (am_met μ).1.cls i ((am_T x).2.1 y).1 ((am_T x).2.1 y).2.1 ((am_T x).2.1 y).2.2.1) && decide (y < (am_T x).2.2)
  | .putfield i => am_nx μ k pc 3 len && am_wat (am_z z 0) (.fieldLink (am_met μ).1.cls i ((am_T x).2.1 y).1 ((am_T x).2.1 y).2.1 ((am_T x).2.1 y).2.2.1) && decide (y < (am_T x).2.2) && !((am_T x).2.1 y).2.2.2 && (match z with
      | [_, 0] => decide (parseFieldDescriptor ((am_T x).2.1 y).2.2.1 = some .int)
      | _ => decide (parseFieldDescriptor ((am_T x).2.1 y).2.2.1 = some .boolean))
  | .ireturn => Nat.beq len 1 && (match (am_met μ).2.2.2.1 with
      | some .int => true
      | some .boolean => true
      | _ => false)
  | .return_ => Nat.beq len 1 && (match (am_met μ).2.2.2.1 with
      | none => true
      | _ => false)
  | .invokevirtual i => am_nx μ k pc 3 len && am_wat (am_z z 0) (.methodLink (am_met μ).1.cls i (am_met x).1) && am_wat (am_z z 1) (.instanceMethod (am_met x).1) && am_wat (am_z z 2) (.selects (am_met x).1.cls (am_met x).1 (am_met x).1) && decide ((parseMethodDescriptor (am_met x).1.desc).map (fun d => d.parameters.length) = some y) && Nat.ble (y + 1) (am_met x).2.2.1 && decide (x < am_law)
  | .invokestatic i => am_nx μ k pc 3 len && (match Nat.beq x 1000 with
      | true => am_wat (am_z z 0) (.methodLink (am_met μ).1.cls i Lib.Math.max.name) && am_wat (am_z z 1) (.static Lib.Math.max.name)
      | false => (match Nat.beq x 1001 with
        | true => am_wat (am_z z 0) (.methodLink (am_met μ).1.cls i Lib.Math.min.name) && am_wat (am_z z 1) (.static Lib.Math.min.name)
        | false => am_wat (am_z z 0) (.methodLink (am_met μ).1.cls i (am_met x).1) && am_wat (am_z z 1) (.static (am_met x).1) && decide ((parseMethodDescriptor (am_met x).1.desc).map (fun d => d.parameters.length) = some y) && Nat.ble y (am_met x).2.2.1 && decide (x < am_law)))
  | _ => am_nx μ k pc 1 len
def am_okE (μ k : Nat) (e : am_En) : Bool := decide (decode (am_met μ).2.1 e.1 = .ok (e.2.1, e.2.2.1)) && am_okI μ k e.1 e.2.2.1 e.2.1 e.2.2.2.1 e.2.2.2.2.1 e.2.2.2.2.2.1 e.2.2.2.2.2.2
def am_okA (μ k : Nat) : Bool := match (am_tab μ)[k]? with
  | some e => am_okE μ k e
  | none => true
def am_okR (μ a n : Nat) : Bool := (List.range' a n).all (am_okA μ)
theorem am_okR_at {μ a n : Nat} (h : am_okR μ a n = true) {k : Nat} (h1 : a ≤ k) (h2 : k < a + n) : am_okA μ k = true :=
  List.all_eq_true.mp h k (List.mem_range'_1.mpr ⟨h1, h2⟩)
theorem am_okA_end {μ k : Nat} (h : (am_tab μ)[k]? = none) : am_okA μ k = true := by
  unfold am_okA
  rw [h]
/-- what a callee owes -/
def am_okM (μ : Nat) : Bool := plainName (am_met μ).1.cls && decide ((am_met μ).1.cls ≠ "java/lang/invoke/MethodHandle") && decide ((am_met μ).1.cls ≠ "java/lang/invoke/VarHandle") && Nat.ble (am_met μ).2.2.1 40 && am_wat (am_z (am_met μ).2.2.2.2.2 0) (.code (am_met μ).1 (am_met μ).2.1 (am_met μ).2.2.1 (am_met μ).2.2.2.1) && am_wat (am_z (am_met μ).2.2.2.2.2 1) (.initialized (am_met μ).1.cls) && (Nat.beq (am_met μ).2.2.2.2.1 99 || decide ((am_T (am_met μ).2.2.2.2.1).1 = (am_met μ).1.cls))
theorem am_k0_0 : am_okR 0 0 21 = true := by decide +kernel
theorem am_k0 (k : Nat) : am_okA 0 k = true := by
  rcases Nat.lt_or_ge k 21 with h0 | h0
  · exact am_okR_at am_k0_0 (by omega) (by omega)
  exact am_okA_end (List.getElem?_eq_none (show (am_tab 0).length ≤ k from h0))
theorem am_k1_0 : am_okR 1 0 11 = true := by decide +kernel
theorem am_k1 (k : Nat) : am_okA 1 k = true := by
  rcases Nat.lt_or_ge k 11 with h0 | h0
  · exact am_okR_at am_k1_0 (by omega) (by omega)
  exact am_okA_end (List.getElem?_eq_none (show (am_tab 1).length ≤ k from h0))
theorem am_k2_0 : am_okR 2 0 35 = true := by decide +kernel
theorem am_k2 (k : Nat) : am_okA 2 k = true := by
  rcases Nat.lt_or_ge k 35 with h0 | h0
  · exact am_okR_at am_k2_0 (by omega) (by omega)
  exact am_okA_end (List.getElem?_eq_none (show (am_tab 2).length ≤ k from h0))
theorem am_k3_0 : am_okR 3 0 40 = true := by decide +kernel
theorem am_k3_40 : am_okR 3 40 1 = true := by decide +kernel
theorem am_k3 (k : Nat) : am_okA 3 k = true := by
  rcases Nat.lt_or_ge k 40 with h0 | h0
  · exact am_okR_at am_k3_0 (by omega) (by omega)
  rcases Nat.lt_or_ge k 41 with h40 | h40
  · exact am_okR_at am_k3_40 (by omega) (by omega)
  exact am_okA_end (List.getElem?_eq_none (show (am_tab 3).length ≤ k from h40))
theorem am_k4_0 : am_okR 4 0 29 = true := by decide +kernel
theorem am_k4 (k : Nat) : am_okA 4 k = true := by
  rcases Nat.lt_or_ge k 29 with h0 | h0
  · exact am_okR_at am_k4_0 (by omega) (by omega)
  exact am_okA_end (List.getElem?_eq_none (show (am_tab 4).length ≤ k from h0))
theorem am_k5_0 : am_okR 5 0 14 = true := by decide +kernel
theorem am_k5 (k : Nat) : am_okA 5 k = true := by
  rcases Nat.lt_or_ge k 14 with h0 | h0
  · exact am_okR_at am_k5_0 (by omega) (by omega)
  exact am_okA_end (List.getElem?_eq_none (show (am_tab 5).length ≤ k from h0))
theorem am_k6_0 : am_okR 6 0 21 = true := by decide +kernel
theorem am_k6 (k : Nat) : am_okA 6 k = true := by
  rcases Nat.lt_or_ge k 21 with h0 | h0
  · exact am_okR_at am_k6_0 (by omega) (by omega)
  exact am_okA_end (List.getElem?_eq_none (show (am_tab 6).length ≤ k from h0))
theorem am_k7_0 : am_okR 7 0 33 = true := by decide +kernel
theorem am_k7 (k : Nat) : am_okA 7 k = true := by
  rcases Nat.lt_or_ge k 33 with h0 | h0
  · exact am_okR_at am_k7_0 (by omega) (by omega)
  exact am_okA_end (List.getElem?_eq_none (show (am_tab 7).length ≤ k from h0))
theorem am_k8_0 : am_okR 8 0 40 = true := by decide +kernel
theorem am_k8_40 : am_okR 8 40 13 = true := by decide +kernel
theorem am_k8 (k : Nat) : am_okA 8 k = true := by
  rcases Nat.lt_or_ge k 40 with h0 | h0
  · exact am_okR_at am_k8_0 (by omega) (by omega)
  rcases Nat.lt_or_ge k 53 with h40 | h40
  · exact am_okR_at am_k8_40 (by omega) (by omega)
  exact am_okA_end (List.getElem?_eq_none (show (am_tab 8).length ≤ k from h40))
theorem am_k9_0 : am_okR 9 0 25 = true := by decide +kernel
theorem am_k9 (k : Nat) : am_okA 9 k = true := by
  rcases Nat.lt_or_ge k 25 with h0 | h0
  · exact am_okR_at am_k9_0 (by omega) (by omega)
  exact am_okA_end (List.getElem?_eq_none (show (am_tab 9).length ≤ k from h0))
theorem am_k10_0 : am_okR 10 0 17 = true := by decide +kernel
theorem am_k10 (k : Nat) : am_okA 10 k = true := by
  rcases Nat.lt_or_ge k 17 with h0 | h0
  · exact am_okR_at am_k10_0 (by omega) (by omega)
  exact am_okA_end (List.getElem?_eq_none (show (am_tab 10).length ≤ k from h0))
theorem am_k11_0 : am_okR 11 0 14 = true := by decide +kernel
theorem am_k11 (k : Nat) : am_okA 11 k = true := by
  rcases Nat.lt_or_ge k 14 with h0 | h0
  · exact am_okR_at am_k11_0 (by omega) (by omega)
  exact am_okA_end (List.getElem?_eq_none (show (am_tab 11).length ≤ k from h0))
theorem am_k12_0 : am_okR 12 0 10 = true := by decide +kernel
theorem am_k12 (k : Nat) : am_okA 12 k = true := by
  rcases Nat.lt_or_ge k 10 with h0 | h0
  · exact am_okR_at am_k12_0 (by omega) (by omega)
  exact am_okA_end (List.getElem?_eq_none (show (am_tab 12).length ≤ k from h0))
theorem am_k13_0 : am_okR 13 0 10 = true := by decide +kernel
theorem am_k13 (k : Nat) : am_okA 13 k = true := by
  rcases Nat.lt_or_ge k 10 with h0 | h0
  · exact am_okR_at am_k13_0 (by omega) (by omega)
  exact am_okA_end (List.getElem?_eq_none (show (am_tab 13).length ≤ k from h0))
theorem am_k14_0 : am_okR 14 0 11 = true := by decide +kernel
theorem am_k14 (k : Nat) : am_okA 14 k = true := by
  rcases Nat.lt_or_ge k 11 with h0 | h0
  · exact am_okR_at am_k14_0 (by omega) (by omega)
  exact am_okA_end (List.getElem?_eq_none (show (am_tab 14).length ≤ k from h0))
theorem am_k15_0 : am_okR 15 0 16 = true := by decide +kernel
theorem am_k15 (k : Nat) : am_okA 15 k = true := by
  rcases Nat.lt_or_ge k 16 with h0 | h0
  · exact am_okR_at am_k15_0 (by omega) (by omega)
  exact am_okA_end (List.getElem?_eq_none (show (am_tab 15).length ≤ k from h0))
theorem am_k16_0 : am_okR 16 0 17 = true := by decide +kernel
theorem am_k16 (k : Nat) : am_okA 16 k = true := by
  rcases Nat.lt_or_ge k 17 with h0 | h0
  · exact am_okR_at am_k16_0 (by omega) (by omega)
  exact am_okA_end (List.getElem?_eq_none (show (am_tab 16).length ≤ k from h0))
theorem am_k17_0 : am_okR 17 0 22 = true := by decide +kernel
theorem am_k17 (k : Nat) : am_okA 17 k = true := by
  rcases Nat.lt_or_ge k 22 with h0 | h0
  · exact am_okR_at am_k17_0 (by omega) (by omega)
  exact am_okA_end (List.getElem?_eq_none (show (am_tab 17).length ≤ k from h0))
theorem am_k18_0 : am_okR 18 0 25 = true := by decide +kernel
theorem am_k18 (k : Nat) : am_okA 18 k = true := by
  rcases Nat.lt_or_ge k 25 with h0 | h0
  · exact am_okR_at am_k18_0 (by omega) (by omega)
  exact am_okA_end (List.getElem?_eq_none (show (am_tab 18).length ≤ k from h0))
theorem am_k19_0 : am_okR 19 0 19 = true := by decide +kernel
theorem am_k19 (k : Nat) : am_okA 19 k = true := by
  rcases Nat.lt_or_ge k 19 with h0 | h0
  · exact am_okR_at am_k19_0 (by omega) (by omega)
  exact am_okA_end (List.getElem?_eq_none (show (am_tab 19).length ≤ k from h0))
theorem am_k20_0 : am_okR 20 0 40 = true := by decide +kernel
theorem am_k20_40 : am_okR 20 40 24 = true := by decide +kernel
theorem am_k20 (k : Nat) : am_okA 20 k = true := by
  rcases Nat.lt_or_ge k 40 with h0 | h0
  · exact am_okR_at am_k20_0 (by omega) (by omega)
  rcases Nat.lt_or_ge k 64 with h40 | h40
  · exact am_okR_at am_k20_40 (by omega) (by omega)
  exact am_okA_end (List.getElem?_eq_none (show (am_tab 20).length ≤ k from h40))
theorem am_k21_0 : am_okR 21 0 28 = true := by decide +kernel
theorem am_k21 (k : Nat) : am_okA 21 k = true := by
  rcases Nat.lt_or_ge k 28 with h0 | h0
  · exact am_okR_at am_k21_0 (by omega) (by omega)
  exact am_okA_end (List.getElem?_eq_none (show (am_tab 21).length ≤ k from h0))
theorem am_k22_0 : am_okR 22 0 17 = true := by decide +kernel
theorem am_k22 (k : Nat) : am_okA 22 k = true := by
  rcases Nat.lt_or_ge k 17 with h0 | h0
  · exact am_okR_at am_k22_0 (by omega) (by omega)
  exact am_okA_end (List.getElem?_eq_none (show (am_tab 22).length ≤ k from h0))
theorem am_k23_0 : am_okR 23 0 19 = true := by decide +kernel
theorem am_k23 (k : Nat) : am_okA 23 k = true := by
  rcases Nat.lt_or_ge k 19 with h0 | h0
  · exact am_okR_at am_k23_0 (by omega) (by omega)
  exact am_okA_end (List.getElem?_eq_none (show (am_tab 23).length ≤ k from h0))
theorem am_k24_0 : am_okR 24 0 37 = true := by decide +kernel
theorem am_k24 (k : Nat) : am_okA 24 k = true := by
  rcases Nat.lt_or_ge k 37 with h0 | h0
  · exact am_okR_at am_k24_0 (by omega) (by omega)
  exact am_okA_end (List.getElem?_eq_none (show (am_tab 24).length ≤ k from h0))
theorem am_k25_0 : am_okR 25 0 17 = true := by decide +kernel
theorem am_k25 (k : Nat) : am_okA 25 k = true := by
  rcases Nat.lt_or_ge k 17 with h0 | h0
  · exact am_okR_at am_k25_0 (by omega) (by omega)
  exact am_okA_end (List.getElem?_eq_none (show (am_tab 25).length ≤ k from h0))
theorem am_k26_0 : am_okR 26 0 8 = true := by decide +kernel
theorem am_k26 (k : Nat) : am_okA 26 k = true := by
  rcases Nat.lt_or_ge k 8 with h0 | h0
  · exact am_okR_at am_k26_0 (by omega) (by omega)
  exact am_okA_end (List.getElem?_eq_none (show (am_tab 26).length ≤ k from h0))
theorem am_k27_0 : am_okR 27 0 12 = true := by decide +kernel
theorem am_k27 (k : Nat) : am_okA 27 k = true := by
  rcases Nat.lt_or_ge k 12 with h0 | h0
  · exact am_okR_at am_k27_0 (by omega) (by omega)
  exact am_okA_end (List.getElem?_eq_none (show (am_tab 27).length ≤ k from h0))
theorem am_k28_0 : am_okR 28 0 8 = true := by decide +kernel
theorem am_k28 (k : Nat) : am_okA 28 k = true := by
  rcases Nat.lt_or_ge k 8 with h0 | h0
  · exact am_okR_at am_k28_0 (by omega) (by omega)
  exact am_okA_end (List.getElem?_eq_none (show (am_tab 28).length ≤ k from h0))
theorem am_k29_0 : am_okR 29 0 31 = true := by decide +kernel
theorem am_k29 (k : Nat) : am_okA 29 k = true := by
  rcases Nat.lt_or_ge k 31 with h0 | h0
  · exact am_okR_at am_k29_0 (by omega) (by omega)
  exact am_okA_end (List.getElem?_eq_none (show (am_tab 29).length ≤ k from h0))
theorem am_k30_0 : am_okR 30 0 31 = true := by decide +kernel
theorem am_k30 (k : Nat) : am_okA 30 k = true := by
  rcases Nat.lt_or_ge k 31 with h0 | h0
  · exact am_okR_at am_k30_0 (by omega) (by omega)
  exact am_okA_end (List.getElem?_eq_none (show (am_tab 30).length ≤ k from h0))
theorem am_k31_0 : am_okR 31 0 22 = true := by decide +kernel
theorem am_k31 (k : Nat) : am_okA 31 k = true := by
  rcases Nat.lt_or_ge k 22 with h0 | h0
  · exact am_okR_at am_k31_0 (by omega) (by omega)
  exact am_okA_end (List.getElem?_eq_none (show (am_tab 31).length ≤ k from h0))
theorem am_k32_0 : am_okR 32 0 40 = true := by decide +kernel
theorem am_k32_40 : am_okR 32 40 40 = true := by decide +kernel
theorem am_k32_80 : am_okR 32 80 36 = true := by decide +kernel
theorem am_k32 (k : Nat) : am_okA 32 k = true := by
  rcases Nat.lt_or_ge k 40 with h0 | h0
  · exact am_okR_at am_k32_0 (by omega) (by omega)
  rcases Nat.lt_or_ge k 80 with h40 | h40
  · exact am_okR_at am_k32_40 (by omega) (by omega)
  rcases Nat.lt_or_ge k 116 with h80 | h80
  · exact am_okR_at am_k32_80 (by omega) (by omega)
  exact am_okA_end (List.getElem?_eq_none (show (am_tab 32).length ≤ k from h80))
theorem am_k33_0 : am_okR 33 0 39 = true := by decide +kernel
theorem am_k33 (k : Nat) : am_okA 33 k = true := by
  rcases Nat.lt_or_ge k 39 with h0 | h0
  · exact am_okR_at am_k33_0 (by omega) (by omega)
  exact am_okA_end (List.getElem?_eq_none (show (am_tab 33).length ≤ k from h0))
theorem am_k34_0 : am_okR 34 0 40 = true := by decide +kernel
theorem am_k34_40 : am_okR 34 40 31 = true := by decide +kernel
theorem am_k34 (k : Nat) : am_okA 34 k = true := by
  rcases Nat.lt_or_ge k 40 with h0 | h0
  · exact am_okR_at am_k34_0 (by omega) (by omega)
  rcases Nat.lt_or_ge k 71 with h40 | h40
  · exact am_okR_at am_k34_40 (by omega) (by omega)
  exact am_okA_end (List.getElem?_eq_none (show (am_tab 34).length ≤ k from h40))
theorem am_k35_0 : am_okR 35 0 20 = true := by decide +kernel
theorem am_k35 (k : Nat) : am_okA 35 k = true := by
  rcases Nat.lt_or_ge k 20 with h0 | h0
  · exact am_okR_at am_k35_0 (by omega) (by omega)
  exact am_okA_end (List.getElem?_eq_none (show (am_tab 35).length ≤ k from h0))
theorem am_k36_0 : am_okR 36 0 40 = true := by decide +kernel
theorem am_k36_40 : am_okR 36 40 32 = true := by decide +kernel
theorem am_k36 (k : Nat) : am_okA 36 k = true := by
  rcases Nat.lt_or_ge k 40 with h0 | h0
  · exact am_okR_at am_k36_0 (by omega) (by omega)
  rcases Nat.lt_or_ge k 72 with h40 | h40
  · exact am_okR_at am_k36_40 (by omega) (by omega)
  exact am_okA_end (List.getElem?_eq_none (show (am_tab 36).length ≤ k from h40))
theorem am_k37_0 : am_okR 37 0 40 = true := by decide +kernel
theorem am_k37_40 : am_okR 37 40 29 = true := by decide +kernel
theorem am_k37 (k : Nat) : am_okA 37 k = true := by
  rcases Nat.lt_or_ge k 40 with h0 | h0
  · exact am_okR_at am_k37_0 (by omega) (by omega)
  rcases Nat.lt_or_ge k 69 with h40 | h40
  · exact am_okR_at am_k37_40 (by omega) (by omega)
  exact am_okA_end (List.getElem?_eq_none (show (am_tab 37).length ≤ k from h40))
theorem am_k38_0 : am_okR 38 0 29 = true := by decide +kernel
theorem am_k38 (k : Nat) : am_okA 38 k = true := by
  rcases Nat.lt_or_ge k 29 with h0 | h0
  · exact am_okR_at am_k38_0 (by omega) (by omega)
  exact am_okA_end (List.getElem?_eq_none (show (am_tab 38).length ≤ k from h0))
theorem am_k39_0 : am_okR 39 0 37 = true := by decide +kernel
theorem am_k39 (k : Nat) : am_okA 39 k = true := by
  rcases Nat.lt_or_ge k 37 with h0 | h0
  · exact am_okR_at am_k39_0 (by omega) (by omega)
  exact am_okA_end (List.getElem?_eq_none (show (am_tab 39).length ≤ k from h0))
theorem am_k40_0 : am_okR 40 0 22 = true := by decide +kernel
theorem am_k40 (k : Nat) : am_okA 40 k = true := by
  rcases Nat.lt_or_ge k 22 with h0 | h0
  · exact am_okR_at am_k40_0 (by omega) (by omega)
  exact am_okA_end (List.getElem?_eq_none (show (am_tab 40).length ≤ k from h0))
theorem am_k41_0 : am_okR 41 0 40 = true := by decide +kernel
theorem am_k41_40 : am_okR 41 40 24 = true := by decide +kernel
theorem am_k41 (k : Nat) : am_okA 41 k = true := by
  rcases Nat.lt_or_ge k 40 with h0 | h0
  · exact am_okR_at am_k41_0 (by omega) (by omega)
  rcases Nat.lt_or_ge k 64 with h40 | h40
  · exact am_okR_at am_k41_40 (by omega) (by omega)
  exact am_okA_end (List.getElem?_eq_none (show (am_tab 41).length ≤ k from h40))
theorem am_k42_0 : am_okR 42 0 40 = true := by decide +kernel
theorem am_k42_40 : am_okR 42 40 12 = true := by decide +kernel
theorem am_k42 (k : Nat) : am_okA 42 k = true := by
  rcases Nat.lt_or_ge k 40 with h0 | h0
  · exact am_okR_at am_k42_0 (by omega) (by omega)
  rcases Nat.lt_or_ge k 52 with h40 | h40
  · exact am_okR_at am_k42_40 (by omega) (by omega)
  exact am_okA_end (List.getElem?_eq_none (show (am_tab 42).length ≤ k from h40))
end
section
theorem am_k43_0 : am_okR 43 0 23 = true := by decide +kernel
theorem am_k43 (k : Nat) : am_okA 43 k = true := by
  rcases Nat.lt_or_ge k 23 with h0 | h0
  · exact am_okR_at am_k43_0 (by omega) (by omega)
  exact am_okA_end (List.getElem?_eq_none (show (am_tab 43).length ≤ k from h0))
theorem am_k44_0 : am_okR 44 0 23 = true := by decide +kernel
theorem am_k44 (k : Nat) : am_okA 44 k = true := by
  rcases Nat.lt_or_ge k 23 with h0 | h0
  · exact am_okR_at am_k44_0 (by omega) (by omega)
  exact am_okA_end (List.getElem?_eq_none (show (am_tab 44).length ≤ k from h0))
theorem am_k45_0 : am_okR 45 0 39 = true := by decide +kernel
theorem am_k45 (k : Nat) : am_okA 45 k = true := by
  rcases Nat.lt_or_ge k 39 with h0 | h0
  · exact am_okR_at am_k45_0 (by omega) (by omega)
  exact am_okA_end (List.getElem?_eq_none (show (am_tab 45).length ≤ k from h0))
theorem am_k46_0 : am_okR 46 0 35 = true := by decide +kernel
theorem am_k46 (k : Nat) : am_okA 46 k = true := by
  rcases Nat.lt_or_ge k 35 with h0 | h0
  · exact am_okR_at am_k46_0 (by omega) (by omega)
  exact am_okA_end (List.getElem?_eq_none (show (am_tab 46).length ≤ k from h0))
theorem am_k47_0 : am_okR 47 0 40 = true := by decide +kernel
theorem am_k47_40 : am_okR 47 40 40 = true := by decide +kernel
theorem am_k47_80 : am_okR 47 80 22 = true := by decide +kernel
theorem am_k47 (k : Nat) : am_okA 47 k = true := by
  rcases Nat.lt_or_ge k 40 with h0 | h0
  · exact am_okR_at am_k47_0 (by omega) (by omega)
  rcases Nat.lt_or_ge k 80 with h40 | h40
  · exact am_okR_at am_k47_40 (by omega) (by omega)
  rcases Nat.lt_or_ge k 102 with h80 | h80
  · exact am_okR_at am_k47_80 (by omega) (by omega)
  exact am_okA_end (List.getElem?_eq_none (show (am_tab 47).length ≤ k from h80))
theorem am_k48_0 : am_okR 48 0 28 = true := by decide +kernel
theorem am_k48 (k : Nat) : am_okA 48 k = true := by
  rcases Nat.lt_or_ge k 28 with h0 | h0
  · exact am_okR_at am_k48_0 (by omega) (by omega)
  exact am_okA_end (List.getElem?_eq_none (show (am_tab 48).length ≤ k from h0))
theorem am_k49_0 : am_okR 49 0 32 = true := by decide +kernel
theorem am_k49 (k : Nat) : am_okA 49 k = true := by
  rcases Nat.lt_or_ge k 32 with h0 | h0
  · exact am_okR_at am_k49_0 (by omega) (by omega)
  exact am_okA_end (List.getElem?_eq_none (show (am_tab 49).length ≤ k from h0))
theorem am_k50_0 : am_okR 50 0 36 = true := by decide +kernel
theorem am_k50 (k : Nat) : am_okA 50 k = true := by
  rcases Nat.lt_or_ge k 36 with h0 | h0
  · exact am_okR_at am_k50_0 (by omega) (by omega)
  exact am_okA_end (List.getElem?_eq_none (show (am_tab 50).length ≤ k from h0))
theorem am_k51_0 : am_okR 51 0 32 = true := by decide +kernel
theorem am_k51 (k : Nat) : am_okA 51 k = true := by
  rcases Nat.lt_or_ge k 32 with h0 | h0
  · exact am_okR_at am_k51_0 (by omega) (by omega)
  exact am_okA_end (List.getElem?_eq_none (show (am_tab 51).length ≤ k from h0))
theorem am_k52_0 : am_okR 52 0 40 = true := by decide +kernel
theorem am_k52_40 : am_okR 52 40 10 = true := by decide +kernel
theorem am_k52 (k : Nat) : am_okA 52 k = true := by
  rcases Nat.lt_or_ge k 40 with h0 | h0
  · exact am_okR_at am_k52_0 (by omega) (by omega)
  rcases Nat.lt_or_ge k 50 with h40 | h40
  · exact am_okR_at am_k52_40 (by omega) (by omega)
  exact am_okA_end (List.getElem?_eq_none (show (am_tab 52).length ≤ k from h40))
theorem am_k53_0 : am_okR 53 0 8 = true := by decide +kernel
theorem am_k53 (k : Nat) : am_okA 53 k = true := by
  rcases Nat.lt_or_ge k 8 with h0 | h0
  · exact am_okR_at am_k53_0 (by omega) (by omega)
  exact am_okA_end (List.getElem?_eq_none (show (am_tab 53).length ≤ k from h0))
theorem am_k54_0 : am_okR 54 0 34 = true := by decide +kernel
theorem am_k54 (k : Nat) : am_okA 54 k = true := by
  rcases Nat.lt_or_ge k 34 with h0 | h0
  · exact am_okR_at am_k54_0 (by omega) (by omega)
  exact am_okA_end (List.getElem?_eq_none (show (am_tab 54).length ≤ k from h0))
theorem am_k55_0 : am_okR 55 0 30 = true := by decide +kernel
theorem am_k55 (k : Nat) : am_okA 55 k = true := by
  rcases Nat.lt_or_ge k 30 with h0 | h0
  · exact am_okR_at am_k55_0 (by omega) (by omega)
  exact am_okA_end (List.getElem?_eq_none (show (am_tab 55).length ≤ k from h0))
theorem am_k56_0 : am_okR 56 0 18 = true := by decide +kernel
theorem am_k56 (k : Nat) : am_okA 56 k = true := by
  rcases Nat.lt_or_ge k 18 with h0 | h0
  · exact am_okR_at am_k56_0 (by omega) (by omega)
  exact am_okA_end (List.getElem?_eq_none (show (am_tab 56).length ≤ k from h0))
theorem am_k57_0 : am_okR 57 0 29 = true := by decide +kernel
theorem am_k57 (k : Nat) : am_okA 57 k = true := by
  rcases Nat.lt_or_ge k 29 with h0 | h0
  · exact am_okR_at am_k57_0 (by omega) (by omega)
  exact am_okA_end (List.getElem?_eq_none (show (am_tab 57).length ≤ k from h0))
theorem am_k58_0 : am_okR 58 0 32 = true := by decide +kernel
theorem am_k58 (k : Nat) : am_okA 58 k = true := by
  rcases Nat.lt_or_ge k 32 with h0 | h0
  · exact am_okR_at am_k58_0 (by omega) (by omega)
  exact am_okA_end (List.getElem?_eq_none (show (am_tab 58).length ≤ k from h0))
theorem am_k59_0 : am_okR 59 0 18 = true := by decide +kernel
theorem am_k59 (k : Nat) : am_okA 59 k = true := by
  rcases Nat.lt_or_ge k 18 with h0 | h0
  · exact am_okR_at am_k59_0 (by omega) (by omega)
  exact am_okA_end (List.getElem?_eq_none (show (am_tab 59).length ≤ k from h0))
theorem am_k60_0 : am_okR 60 0 33 = true := by decide +kernel
theorem am_k60 (k : Nat) : am_okA 60 k = true := by
  rcases Nat.lt_or_ge k 33 with h0 | h0
  · exact am_okR_at am_k60_0 (by omega) (by omega)
  exact am_okA_end (List.getElem?_eq_none (show (am_tab 60).length ≤ k from h0))
theorem am_k61_0 : am_okR 61 0 20 = true := by decide +kernel
theorem am_k61 (k : Nat) : am_okA 61 k = true := by
  rcases Nat.lt_or_ge k 20 with h0 | h0
  · exact am_okR_at am_k61_0 (by omega) (by omega)
  exact am_okA_end (List.getElem?_eq_none (show (am_tab 61).length ≤ k from h0))
theorem am_k62_0 : am_okR 62 0 10 = true := by decide +kernel
theorem am_k62 (k : Nat) : am_okA 62 k = true := by
  rcases Nat.lt_or_ge k 10 with h0 | h0
  · exact am_okR_at am_k62_0 (by omega) (by omega)
  exact am_okA_end (List.getElem?_eq_none (show (am_tab 62).length ≤ k from h0))
theorem am_k63_0 : am_okR 63 0 18 = true := by decide +kernel
theorem am_k63 (k : Nat) : am_okA 63 k = true := by
  rcases Nat.lt_or_ge k 18 with h0 | h0
  · exact am_okR_at am_k63_0 (by omega) (by omega)
  exact am_okA_end (List.getElem?_eq_none (show (am_tab 63).length ≤ k from h0))
theorem am_k64_0 : am_okR 64 0 36 = true := by decide +kernel
theorem am_k64 (k : Nat) : am_okA 64 k = true := by
  rcases Nat.lt_or_ge k 36 with h0 | h0
  · exact am_okR_at am_k64_0 (by omega) (by omega)
  exact am_okA_end (List.getElem?_eq_none (show (am_tab 64).length ≤ k from h0))
theorem am_k65_0 : am_okR 65 0 38 = true := by decide +kernel
theorem am_k65 (k : Nat) : am_okA 65 k = true := by
  rcases Nat.lt_or_ge k 38 with h0 | h0
  · exact am_okR_at am_k65_0 (by omega) (by omega)
  exact am_okA_end (List.getElem?_eq_none (show (am_tab 65).length ≤ k from h0))
theorem am_k66_0 : am_okR 66 0 27 = true := by decide +kernel
theorem am_k66 (k : Nat) : am_okA 66 k = true := by
  rcases Nat.lt_or_ge k 27 with h0 | h0
  · exact am_okR_at am_k66_0 (by omega) (by omega)
  exact am_okA_end (List.getElem?_eq_none (show (am_tab 66).length ≤ k from h0))
theorem am_k67_0 : am_okR 67 0 40 = true := by decide +kernel
theorem am_k67_40 : am_okR 67 40 25 = true := by decide +kernel
theorem am_k67 (k : Nat) : am_okA 67 k = true := by
  rcases Nat.lt_or_ge k 40 with h0 | h0
  · exact am_okR_at am_k67_0 (by omega) (by omega)
  rcases Nat.lt_or_ge k 65 with h40 | h40
  · exact am_okR_at am_k67_40 (by omega) (by omega)
  exact am_okA_end (List.getElem?_eq_none (show (am_tab 67).length ≤ k from h40))
theorem am_k68_0 : am_okR 68 0 29 = true := by decide +kernel
theorem am_k68 (k : Nat) : am_okA 68 k = true := by
  rcases Nat.lt_or_ge k 29 with h0 | h0
  · exact am_okR_at am_k68_0 (by omega) (by omega)
  exact am_okA_end (List.getElem?_eq_none (show (am_tab 68).length ≤ k from h0))
theorem am_k69_0 : am_okR 69 0 32 = true := by decide +kernel
theorem am_k69 (k : Nat) : am_okA 69 k = true := by
  rcases Nat.lt_or_ge k 32 with h0 | h0
  · exact am_okR_at am_k69_0 (by omega) (by omega)
  exact am_okA_end (List.getElem?_eq_none (show (am_tab 69).length ≤ k from h0))
theorem am_k70_0 : am_okR 70 0 12 = true := by decide +kernel
theorem am_k70 (k : Nat) : am_okA 70 k = true := by
  rcases Nat.lt_or_ge k 12 with h0 | h0
  · exact am_okR_at am_k70_0 (by omega) (by omega)
  exact am_okA_end (List.getElem?_eq_none (show (am_tab 70).length ≤ k from h0))
theorem am_k71_0 : am_okR 71 0 9 = true := by decide +kernel
theorem am_k71 (k : Nat) : am_okA 71 k = true := by
  rcases Nat.lt_or_ge k 9 with h0 | h0
  · exact am_okR_at am_k71_0 (by omega) (by omega)
  exact am_okA_end (List.getElem?_eq_none (show (am_tab 71).length ≤ k from h0))
theorem am_k72_0 : am_okR 72 0 9 = true := by decide +kernel
theorem am_k72 (k : Nat) : am_okA 72 k = true := by
  rcases Nat.lt_or_ge k 9 with h0 | h0
  · exact am_okR_at am_k72_0 (by omega) (by omega)
  exact am_okA_end (List.getElem?_eq_none (show (am_tab 72).length ≤ k from h0))
theorem am_k73_0 : am_okR 73 0 12 = true := by decide +kernel
theorem am_k73 (k : Nat) : am_okA 73 k = true := by
  rcases Nat.lt_or_ge k 12 with h0 | h0
  · exact am_okR_at am_k73_0 (by omega) (by omega)
  exact am_okA_end (List.getElem?_eq_none (show (am_tab 73).length ≤ k from h0))
theorem am_k74_0 : am_okR 74 0 9 = true := by decide +kernel
theorem am_k74 (k : Nat) : am_okA 74 k = true := by
  rcases Nat.lt_or_ge k 9 with h0 | h0
  · exact am_okR_at am_k74_0 (by omega) (by omega)
  exact am_okA_end (List.getElem?_eq_none (show (am_tab 74).length ≤ k from h0))
theorem am_k75_0 : am_okR 75 0 24 = true := by decide +kernel
theorem am_k75 (k : Nat) : am_okA 75 k = true := by
  rcases Nat.lt_or_ge k 24 with h0 | h0
  · exact am_okR_at am_k75_0 (by omega) (by omega)
  exact am_okA_end (List.getElem?_eq_none (show (am_tab 75).length ≤ k from h0))
theorem am_k76_0 : am_okR 76 0 33 = true := by decide +kernel
theorem am_k76 (k : Nat) : am_okA 76 k = true := by
  rcases Nat.lt_or_ge k 33 with h0 | h0
  · exact am_okR_at am_k76_0 (by omega) (by omega)
  exact am_okA_end (List.getElem?_eq_none (show (am_tab 76).length ≤ k from h0))
theorem am_k77_0 : am_okR 77 0 10 = true := by decide +kernel
theorem am_k77 (k : Nat) : am_okA 77 k = true := by
  rcases Nat.lt_or_ge k 10 with h0 | h0
  · exact am_okR_at am_k77_0 (by omega) (by omega)
  exact am_okA_end (List.getElem?_eq_none (show (am_tab 77).length ≤ k from h0))
theorem am_k78_0 : am_okR 78 0 8 = true := by decide +kernel
theorem am_k78 (k : Nat) : am_okA 78 k = true := by
  rcases Nat.lt_or_ge k 8 with h0 | h0
  · exact am_okR_at am_k78_0 (by omega) (by omega)
  exact am_okA_end (List.getElem?_eq_none (show (am_tab 78).length ≤ k from h0))
theorem am_k79_0 : am_okR 79 0 8 = true := by decide +kernel
theorem am_k79 (k : Nat) : am_okA 79 k = true := by
  rcases Nat.lt_or_ge k 8 with h0 | h0
  · exact am_okR_at am_k79_0 (by omega) (by omega)
  exact am_okA_end (List.getElem?_eq_none (show (am_tab 79).length ≤ k from h0))
theorem am_k80_0 : am_okR 80 0 14 = true := by decide +kernel
theorem am_k80 (k : Nat) : am_okA 80 k = true := by
  rcases Nat.lt_or_ge k 14 with h0 | h0
  · exact am_okR_at am_k80_0 (by omega) (by omega)
  exact am_okA_end (List.getElem?_eq_none (show (am_tab 80).length ≤ k from h0))
theorem am_k81_0 : am_okR 81 0 35 = true := by decide +kernel
theorem am_k81 (k : Nat) : am_okA 81 k = true := by
  rcases Nat.lt_or_ge k 35 with h0 | h0
  · exact am_okR_at am_k81_0 (by omega) (by omega)
  exact am_okA_end (List.getElem?_eq_none (show (am_tab 81).length ≤ k from h0))
theorem am_k82_0 : am_okR 82 0 29 = true := by decide +kernel
theorem am_k82 (k : Nat) : am_okA 82 k = true := by
  rcases Nat.lt_or_ge k 29 with h0 | h0
  · exact am_okR_at am_k82_0 (by omega) (by omega)
  exact am_okA_end (List.getElem?_eq_none (show (am_tab 82).length ≤ k from h0))
theorem am_k83_0 : am_okR 83 0 40 = true := by decide +kernel
theorem am_k83_40 : am_okR 83 40 40 = true := by decide +kernel
theorem am_k83_80 : am_okR 83 80 30 = true := by decide +kernel
theorem am_k83 (k : Nat) : am_okA 83 k = true := by
  rcases Nat.lt_or_ge k 40 with h0 | h0
  · exact am_okR_at am_k83_0 (by omega) (by omega)
  rcases Nat.lt_or_ge k 80 with h40 | h40
  · exact am_okR_at am_k83_40 (by omega) (by omega)
  rcases Nat.lt_or_ge k 110 with h80 | h80
  · exact am_okR_at am_k83_80 (by omega) (by omega)
  exact am_okA_end (List.getElem?_eq_none (show (am_tab 83).length ≤ k from h80))
theorem am_k84_0 : am_okR 84 0 21 = true := by decide +kernel
theorem am_k84 (k : Nat) : am_okA 84 k = true := by
  rcases Nat.lt_or_ge k 21 with h0 | h0
  · exact am_okR_at am_k84_0 (by omega) (by omega)
  exact am_okA_end (List.getElem?_eq_none (show (am_tab 84).length ≤ k from h0))
theorem am_k85_0 : am_okR 85 0 14 = true := by decide +kernel
theorem am_k85 (k : Nat) : am_okA 85 k = true := by
  rcases Nat.lt_or_ge k 14 with h0 | h0
  · exact am_okR_at am_k85_0 (by omega) (by omega)
  exact am_okA_end (List.getElem?_eq_none (show (am_tab 85).length ≤ k from h0))
theorem am_k86_0 : am_okR 86 0 40 = true := by decide +kernel
theorem am_k86_40 : am_okR 86 40 17 = true := by decide +kernel
theorem am_k86 (k : Nat) : am_okA 86 k = true := by
  rcases Nat.lt_or_ge k 40 with h0 | h0
  · exact am_okR_at am_k86_0 (by omega) (by omega)
  rcases Nat.lt_or_ge k 57 with h40 | h40
  · exact am_okR_at am_k86_40 (by omega) (by omega)
  exact am_okA_end (List.getElem?_eq_none (show (am_tab 86).length ≤ k from h40))
theorem am_k87_0 : am_okR 87 0 35 = true := by decide +kernel
theorem am_k87 (k : Nat) : am_okA 87 k = true := by
  rcases Nat.lt_or_ge k 35 with h0 | h0
  · exact am_okR_at am_k87_0 (by omega) (by omega)
  exact am_okA_end (List.getElem?_eq_none (show (am_tab 87).length ≤ k from h0))
end
section
theorem am_k88_0 : am_okR 88 0 25 = true := by decide +kernel
theorem am_k88 (k : Nat) : am_okA 88 k = true := by
  rcases Nat.lt_or_ge k 25 with h0 | h0
  · exact am_okR_at am_k88_0 (by omega) (by omega)
  exact am_okA_end (List.getElem?_eq_none (show (am_tab 88).length ≤ k from h0))
theorem am_k89_0 : am_okR 89 0 28 = true := by decide +kernel
theorem am_k89 (k : Nat) : am_okA 89 k = true := by
  rcases Nat.lt_or_ge k 28 with h0 | h0
  · exact am_okR_at am_k89_0 (by omega) (by omega)
  exact am_okA_end (List.getElem?_eq_none (show (am_tab 89).length ≤ k from h0))
theorem am_k90_0 : am_okR 90 0 40 = true := by decide +kernel
theorem am_k90_40 : am_okR 90 40 4 = true := by decide +kernel
theorem am_k90 (k : Nat) : am_okA 90 k = true := by
  rcases Nat.lt_or_ge k 40 with h0 | h0
  · exact am_okR_at am_k90_0 (by omega) (by omega)
  rcases Nat.lt_or_ge k 44 with h40 | h40
  · exact am_okR_at am_k90_40 (by omega) (by omega)
  exact am_okA_end (List.getElem?_eq_none (show (am_tab 90).length ≤ k from h40))
theorem am_k91_0 : am_okR 91 0 23 = true := by decide +kernel
theorem am_k91 (k : Nat) : am_okA 91 k = true := by
  rcases Nat.lt_or_ge k 23 with h0 | h0
  · exact am_okR_at am_k91_0 (by omega) (by omega)
  exact am_okA_end (List.getElem?_eq_none (show (am_tab 91).length ≤ k from h0))
theorem am_k92_0 : am_okR 92 0 40 = true := by decide +kernel
theorem am_k92_40 : am_okR 92 40 37 = true := by decide +kernel
theorem am_k92 (k : Nat) : am_okA 92 k = true := by
  rcases Nat.lt_or_ge k 40 with h0 | h0
  · exact am_okR_at am_k92_0 (by omega) (by omega)
  rcases Nat.lt_or_ge k 77 with h40 | h40
  · exact am_okR_at am_k92_40 (by omega) (by omega)
  exact am_okA_end (List.getElem?_eq_none (show (am_tab 92).length ≤ k from h40))
theorem am_k93_0 : am_okR 93 0 25 = true := by decide +kernel
theorem am_k93 (k : Nat) : am_okA 93 k = true := by
  rcases Nat.lt_or_ge k 25 with h0 | h0
  · exact am_okR_at am_k93_0 (by omega) (by omega)
  exact am_okA_end (List.getElem?_eq_none (show (am_tab 93).length ≤ k from h0))
theorem am_k94_0 : am_okR 94 0 11 = true := by decide +kernel
theorem am_k94 (k : Nat) : am_okA 94 k = true := by
  rcases Nat.lt_or_ge k 11 with h0 | h0
  · exact am_okR_at am_k94_0 (by omega) (by omega)
  exact am_okA_end (List.getElem?_eq_none (show (am_tab 94).length ≤ k from h0))
theorem am_k95_0 : am_okR 95 0 40 = true := by decide +kernel
theorem am_k95_40 : am_okR 95 40 40 = true := by decide +kernel
theorem am_k95_80 : am_okR 95 80 1 = true := by decide +kernel
theorem am_k95 (k : Nat) : am_okA 95 k = true := by
  rcases Nat.lt_or_ge k 40 with h0 | h0
  · exact am_okR_at am_k95_0 (by omega) (by omega)
  rcases Nat.lt_or_ge k 80 with h40 | h40
  · exact am_okR_at am_k95_40 (by omega) (by omega)
  rcases Nat.lt_or_ge k 81 with h80 | h80
  · exact am_okR_at am_k95_80 (by omega) (by omega)
  exact am_okA_end (List.getElem?_eq_none (show (am_tab 95).length ≤ k from h80))
theorem am_k96_0 : am_okR 96 0 40 = true := by decide +kernel
theorem am_k96_40 : am_okR 96 40 40 = true := by decide +kernel
theorem am_k96 (k : Nat) : am_okA 96 k = true := by
  rcases Nat.lt_or_ge k 40 with h0 | h0
  · exact am_okR_at am_k96_0 (by omega) (by omega)
  rcases Nat.lt_or_ge k 80 with h40 | h40
  · exact am_okR_at am_k96_40 (by omega) (by omega)
  exact am_okA_end (List.getElem?_eq_none (show (am_tab 96).length ≤ k from h40))
theorem am_k97_0 : am_okR 97 0 40 = true := by decide +kernel
theorem am_k97_40 : am_okR 97 40 40 = true := by decide +kernel
theorem am_k97_80 : am_okR 97 80 3 = true := by decide +kernel
theorem am_k97 (k : Nat) : am_okA 97 k = true := by
  rcases Nat.lt_or_ge k 40 with h0 | h0
  · exact am_okR_at am_k97_0 (by omega) (by omega)
  rcases Nat.lt_or_ge k 80 with h40 | h40
  · exact am_okR_at am_k97_40 (by omega) (by omega)
  rcases Nat.lt_or_ge k 83 with h80 | h80
  · exact am_okR_at am_k97_80 (by omega) (by omega)
  exact am_okA_end (List.getElem?_eq_none (show (am_tab 97).length ≤ k from h80))
theorem am_k98_0 : am_okR 98 0 40 = true := by decide +kernel
theorem am_k98_40 : am_okR 98 40 1 = true := by decide +kernel
theorem am_k98 (k : Nat) : am_okA 98 k = true := by
  rcases Nat.lt_or_ge k 40 with h0 | h0
  · exact am_okR_at am_k98_0 (by omega) (by omega)
  rcases Nat.lt_or_ge k 41 with h40 | h40
  · exact am_okR_at am_k98_40 (by omega) (by omega)
  exact am_okA_end (List.getElem?_eq_none (show (am_tab 98).length ≤ k from h40))
theorem am_k99_0 : am_okR 99 0 7 = true := by decide +kernel
theorem am_k99 (k : Nat) : am_okA 99 k = true := by
  rcases Nat.lt_or_ge k 7 with h0 | h0
  · exact am_okR_at am_k99_0 (by omega) (by omega)
  exact am_okA_end (List.getElem?_eq_none (show (am_tab 99).length ≤ k from h0))
theorem am_k100_0 : am_okR 100 0 10 = true := by decide +kernel
theorem am_k100 (k : Nat) : am_okA 100 k = true := by
  rcases Nat.lt_or_ge k 10 with h0 | h0
  · exact am_okR_at am_k100_0 (by omega) (by omega)
  exact am_okA_end (List.getElem?_eq_none (show (am_tab 100).length ≤ k from h0))
theorem am_k101_0 : am_okR 101 0 7 = true := by decide +kernel
theorem am_k101 (k : Nat) : am_okA 101 k = true := by
  rcases Nat.lt_or_ge k 7 with h0 | h0
  · exact am_okR_at am_k101_0 (by omega) (by omega)
  exact am_okA_end (List.getElem?_eq_none (show (am_tab 101).length ≤ k from h0))
theorem am_k102_0 : am_okR 102 0 7 = true := by decide +kernel
theorem am_k102 (k : Nat) : am_okA 102 k = true := by
  rcases Nat.lt_or_ge k 7 with h0 | h0
  · exact am_okR_at am_k102_0 (by omega) (by omega)
  exact am_okA_end (List.getElem?_eq_none (show (am_tab 102).length ≤ k from h0))
theorem am_k103_0 : am_okR 103 0 28 = true := by decide +kernel
theorem am_k103 (k : Nat) : am_okA 103 k = true := by
  rcases Nat.lt_or_ge k 28 with h0 | h0
  · exact am_okR_at am_k103_0 (by omega) (by omega)
  exact am_okA_end (List.getElem?_eq_none (show (am_tab 103).length ≤ k from h0))
theorem am_k104_0 : am_okR 104 0 29 = true := by decide +kernel
theorem am_k104 (k : Nat) : am_okA 104 k = true := by
  rcases Nat.lt_or_ge k 29 with h0 | h0
  · exact am_okR_at am_k104_0 (by omega) (by omega)
  exact am_okA_end (List.getElem?_eq_none (show (am_tab 104).length ≤ k from h0))
theorem am_k105_0 : am_okR 105 0 37 = true := by decide +kernel
theorem am_k105 (k : Nat) : am_okA 105 k = true := by
  rcases Nat.lt_or_ge k 37 with h0 | h0
  · exact am_okR_at am_k105_0 (by omega) (by omega)
  exact am_okA_end (List.getElem?_eq_none (show (am_tab 105).length ≤ k from h0))
theorem am_k106_0 : am_okR 106 0 40 = true := by decide +kernel
theorem am_k106_40 : am_okR 106 40 30 = true := by decide +kernel
theorem am_k106 (k : Nat) : am_okA 106 k = true := by
  rcases Nat.lt_or_ge k 40 with h0 | h0
  · exact am_okR_at am_k106_0 (by omega) (by omega)
  rcases Nat.lt_or_ge k 70 with h40 | h40
  · exact am_okR_at am_k106_40 (by omega) (by omega)
  exact am_okA_end (List.getElem?_eq_none (show (am_tab 106).length ≤ k from h40))
theorem am_k107_0 : am_okR 107 0 28 = true := by decide +kernel
theorem am_k107 (k : Nat) : am_okA 107 k = true := by
  rcases Nat.lt_or_ge k 28 with h0 | h0
  · exact am_okR_at am_k107_0 (by omega) (by omega)
  exact am_okA_end (List.getElem?_eq_none (show (am_tab 107).length ≤ k from h0))
theorem am_k108_0 : am_okR 108 0 40 = true := by decide +kernel
theorem am_k108_40 : am_okR 108 40 12 = true := by decide +kernel
theorem am_k108 (k : Nat) : am_okA 108 k = true := by
  rcases Nat.lt_or_ge k 40 with h0 | h0
  · exact am_okR_at am_k108_0 (by omega) (by omega)
  rcases Nat.lt_or_ge k 52 with h40 | h40
  · exact am_okR_at am_k108_40 (by omega) (by omega)
  exact am_okA_end (List.getElem?_eq_none (show (am_tab 108).length ≤ k from h40))
theorem am_k109_0 : am_okR 109 0 40 = true := by decide +kernel
theorem am_k109_40 : am_okR 109 40 12 = true := by decide +kernel
theorem am_k109 (k : Nat) : am_okA 109 k = true := by
  rcases Nat.lt_or_ge k 40 with h0 | h0
  · exact am_okR_at am_k109_0 (by omega) (by omega)
  rcases Nat.lt_or_ge k 52 with h40 | h40
  · exact am_okR_at am_k109_40 (by omega) (by omega)
  exact am_okA_end (List.getElem?_eq_none (show (am_tab 109).length ≤ k from h40))
theorem am_k110_0 : am_okR 110 0 40 = true := by decide +kernel
theorem am_k110_40 : am_okR 110 40 40 = true := by decide +kernel
theorem am_k110_80 : am_okR 110 80 5 = true := by decide +kernel
theorem am_k110 (k : Nat) : am_okA 110 k = true := by
  rcases Nat.lt_or_ge k 40 with h0 | h0
  · exact am_okR_at am_k110_0 (by omega) (by omega)
  rcases Nat.lt_or_ge k 80 with h40 | h40
  · exact am_okR_at am_k110_40 (by omega) (by omega)
  rcases Nat.lt_or_ge k 85 with h80 | h80
  · exact am_okR_at am_k110_80 (by omega) (by omega)
  exact am_okA_end (List.getElem?_eq_none (show (am_tab 110).length ≤ k from h80))
theorem am_k111_0 : am_okR 111 0 40 = true := by decide +kernel
theorem am_k111_40 : am_okR 111 40 19 = true := by decide +kernel
theorem am_k111 (k : Nat) : am_okA 111 k = true := by
  rcases Nat.lt_or_ge k 40 with h0 | h0
  · exact am_okR_at am_k111_0 (by omega) (by omega)
  rcases Nat.lt_or_ge k 59 with h40 | h40
  · exact am_okR_at am_k111_40 (by omega) (by omega)
  exact am_okA_end (List.getElem?_eq_none (show (am_tab 111).length ≤ k from h40))
theorem am_k112_0 : am_okR 112 0 19 = true := by decide +kernel
theorem am_k112 (k : Nat) : am_okA 112 k = true := by
  rcases Nat.lt_or_ge k 19 with h0 | h0
  · exact am_okR_at am_k112_0 (by omega) (by omega)
  exact am_okA_end (List.getElem?_eq_none (show (am_tab 112).length ≤ k from h0))
theorem am_k113_0 : am_okR 113 0 28 = true := by decide +kernel
theorem am_k113 (k : Nat) : am_okA 113 k = true := by
  rcases Nat.lt_or_ge k 28 with h0 | h0
  · exact am_okR_at am_k113_0 (by omega) (by omega)
  exact am_okA_end (List.getElem?_eq_none (show (am_tab 113).length ≤ k from h0))
theorem am_k114_0 : am_okR 114 0 40 = true := by decide +kernel
theorem am_k114_40 : am_okR 114 40 33 = true := by decide +kernel
theorem am_k114 (k : Nat) : am_okA 114 k = true := by
  rcases Nat.lt_or_ge k 40 with h0 | h0
  · exact am_okR_at am_k114_0 (by omega) (by omega)
  rcases Nat.lt_or_ge k 73 with h40 | h40
  · exact am_okR_at am_k114_40 (by omega) (by omega)
  exact am_okA_end (List.getElem?_eq_none (show (am_tab 114).length ≤ k from h40))
theorem am_k115_0 : am_okR 115 0 40 = true := by decide +kernel
theorem am_k115_40 : am_okR 115 40 1 = true := by decide +kernel
theorem am_k115 (k : Nat) : am_okA 115 k = true := by
  rcases Nat.lt_or_ge k 40 with h0 | h0
  · exact am_okR_at am_k115_0 (by omega) (by omega)
  rcases Nat.lt_or_ge k 41 with h40 | h40
  · exact am_okR_at am_k115_40 (by omega) (by omega)
  exact am_okA_end (List.getElem?_eq_none (show (am_tab 115).length ≤ k from h40))
theorem am_k116_0 : am_okR 116 0 22 = true := by decide +kernel
theorem am_k116 (k : Nat) : am_okA 116 k = true := by
  rcases Nat.lt_or_ge k 22 with h0 | h0
  · exact am_okR_at am_k116_0 (by omega) (by omega)
  exact am_okA_end (List.getElem?_eq_none (show (am_tab 116).length ≤ k from h0))
theorem am_k117_0 : am_okR 117 0 30 = true := by decide +kernel
theorem am_k117 (k : Nat) : am_okA 117 k = true := by
  rcases Nat.lt_or_ge k 30 with h0 | h0
  · exact am_okR_at am_k117_0 (by omega) (by omega)
  exact am_okA_end (List.getElem?_eq_none (show (am_tab 117).length ≤ k from h0))
theorem am_k118_0 : am_okR 118 0 15 = true := by decide +kernel
theorem am_k118 (k : Nat) : am_okA 118 k = true := by
  rcases Nat.lt_or_ge k 15 with h0 | h0
  · exact am_okR_at am_k118_0 (by omega) (by omega)
  exact am_okA_end (List.getElem?_eq_none (show (am_tab 118).length ≤ k from h0))
theorem am_k119_0 : am_okR 119 0 33 = true := by decide +kernel
theorem am_k119 (k : Nat) : am_okA 119 k = true := by
  rcases Nat.lt_or_ge k 33 with h0 | h0
  · exact am_okR_at am_k119_0 (by omega) (by omega)
  exact am_okA_end (List.getElem?_eq_none (show (am_tab 119).length ≤ k from h0))
theorem am_k120_0 : am_okR 120 0 5 = true := by decide +kernel
theorem am_k120 (k : Nat) : am_okA 120 k = true := by
  rcases Nat.lt_or_ge k 5 with h0 | h0
  · exact am_okR_at am_k120_0 (by omega) (by omega)
  exact am_okA_end (List.getElem?_eq_none (show (am_tab 120).length ≤ k from h0))
theorem am_k121_0 : am_okR 121 0 24 = true := by decide +kernel
theorem am_k121 (k : Nat) : am_okA 121 k = true := by
  rcases Nat.lt_or_ge k 24 with h0 | h0
  · exact am_okR_at am_k121_0 (by omega) (by omega)
  exact am_okA_end (List.getElem?_eq_none (show (am_tab 121).length ≤ k from h0))
theorem am_k122_0 : am_okR 122 0 40 = true := by decide +kernel
theorem am_k122_40 : am_okR 122 40 1 = true := by decide +kernel
theorem am_k122 (k : Nat) : am_okA 122 k = true := by
  rcases Nat.lt_or_ge k 40 with h0 | h0
  · exact am_okR_at am_k122_0 (by omega) (by omega)
  rcases Nat.lt_or_ge k 41 with h40 | h40
  · exact am_okR_at am_k122_40 (by omega) (by omega)
  exact am_okA_end (List.getElem?_eq_none (show (am_tab 122).length ≤ k from h40))
end
section
theorem am_k123_0 : am_okR 123 0 40 = true := by decide +kernel
theorem am_k123_40 : am_okR 123 40 6 = true := by decide +kernel
theorem am_k123 (k : Nat) : am_okA 123 k = true := by
  rcases Nat.lt_or_ge k 40 with h0 | h0
  · exact am_okR_at am_k123_0 (by omega) (by omega)
  rcases Nat.lt_or_ge k 46 with h40 | h40
  · exact am_okR_at am_k123_40 (by omega) (by omega)
  exact am_okA_end (List.getElem?_eq_none (show (am_tab 123).length ≤ k from h40))
theorem am_k124_0 : am_okR 124 0 40 = true := by decide +kernel
theorem am_k124_40 : am_okR 124 40 37 = true := by decide +kernel
theorem am_k124 (k : Nat) : am_okA 124 k = true := by
  rcases Nat.lt_or_ge k 40 with h0 | h0
  · exact am_okR_at am_k124_0 (by omega) (by omega)
  rcases Nat.lt_or_ge k 77 with h40 | h40
  · exact am_okR_at am_k124_40 (by omega) (by omega)
  exact am_okA_end (List.getElem?_eq_none (show (am_tab 124).length ≤ k from h40))
theorem am_k125_0 : am_okR 125 0 28 = true := by decide +kernel
theorem am_k125 (k : Nat) : am_okA 125 k = true := by
  rcases Nat.lt_or_ge k 28 with h0 | h0
  · exact am_okR_at am_k125_0 (by omega) (by omega)
  exact am_okA_end (List.getElem?_eq_none (show (am_tab 125).length ≤ k from h0))
theorem am_k126_0 : am_okR 126 0 27 = true := by decide +kernel
theorem am_k126 (k : Nat) : am_okA 126 k = true := by
  rcases Nat.lt_or_ge k 27 with h0 | h0
  · exact am_okR_at am_k126_0 (by omega) (by omega)
  exact am_okA_end (List.getElem?_eq_none (show (am_tab 126).length ≤ k from h0))
theorem am_k127_0 : am_okR 127 0 40 = true := by decide +kernel
theorem am_k127_40 : am_okR 127 40 39 = true := by decide +kernel
theorem am_k127 (k : Nat) : am_okA 127 k = true := by
  rcases Nat.lt_or_ge k 40 with h0 | h0
  · exact am_okR_at am_k127_0 (by omega) (by omega)
  rcases Nat.lt_or_ge k 79 with h40 | h40
  · exact am_okR_at am_k127_40 (by omega) (by omega)
  exact am_okA_end (List.getElem?_eq_none (show (am_tab 127).length ≤ k from h40))
theorem am_k128_0 : am_okR 128 0 29 = true := by decide +kernel
theorem am_k128 (k : Nat) : am_okA 128 k = true := by
  rcases Nat.lt_or_ge k 29 with h0 | h0
  · exact am_okR_at am_k128_0 (by omega) (by omega)
  exact am_okA_end (List.getElem?_eq_none (show (am_tab 128).length ≤ k from h0))
theorem am_k129_0 : am_okR 129 0 26 = true := by decide +kernel
theorem am_k129 (k : Nat) : am_okA 129 k = true := by
  rcases Nat.lt_or_ge k 26 with h0 | h0
  · exact am_okR_at am_k129_0 (by omega) (by omega)
  exact am_okA_end (List.getElem?_eq_none (show (am_tab 129).length ≤ k from h0))
theorem am_k130_0 : am_okR 130 0 40 = true := by decide +kernel
theorem am_k130_40 : am_okR 130 40 2 = true := by decide +kernel
theorem am_k130 (k : Nat) : am_okA 130 k = true := by
  rcases Nat.lt_or_ge k 40 with h0 | h0
  · exact am_okR_at am_k130_0 (by omega) (by omega)
  rcases Nat.lt_or_ge k 42 with h40 | h40
  · exact am_okR_at am_k130_40 (by omega) (by omega)
  exact am_okA_end (List.getElem?_eq_none (show (am_tab 130).length ≤ k from h40))
theorem am_k131_0 : am_okR 131 0 40 = true := by decide +kernel
theorem am_k131_40 : am_okR 131 40 40 = true := by decide +kernel
theorem am_k131_80 : am_okR 131 80 40 = true := by decide +kernel
theorem am_k131_120 : am_okR 131 120 40 = true := by decide +kernel
theorem am_k131_160 : am_okR 131 160 40 = true := by decide +kernel
theorem am_k131_200 : am_okR 131 200 40 = true := by decide +kernel
theorem am_k131_240 : am_okR 131 240 40 = true := by decide +kernel
theorem am_k131_280 : am_okR 131 280 40 = true := by decide +kernel
theorem am_k131_320 : am_okR 131 320 40 = true := by decide +kernel
theorem am_k131_360 : am_okR 131 360 40 = true := by decide +kernel
theorem am_k131_400 : am_okR 131 400 40 = true := by decide +kernel
theorem am_k131_440 : am_okR 131 440 40 = true := by decide +kernel
theorem am_k131_480 : am_okR 131 480 40 = true := by decide +kernel
theorem am_k131_520 : am_okR 131 520 40 = true := by decide +kernel
theorem am_k131_560 : am_okR 131 560 9 = true := by decide +kernel
set_option maxRecDepth 20000 in
theorem am_k131 (k : Nat) : am_okA 131 k = true := by
  rcases Nat.lt_or_ge k 40 with h0 | h0
  · exact am_okR_at am_k131_0 (by omega) (by omega)
  rcases Nat.lt_or_ge k 80 with h40 | h40
  · exact am_okR_at am_k131_40 (by omega) (by omega)
  rcases Nat.lt_or_ge k 120 with h80 | h80
  · exact am_okR_at am_k131_80 (by omega) (by omega)
  rcases Nat.lt_or_ge k 160 with h120 | h120
  · exact am_okR_at am_k131_120 (by omega) (by omega)
  rcases Nat.lt_or_ge k 200 with h160 | h160
  · exact am_okR_at am_k131_160 (by omega) (by omega)
  rcases Nat.lt_or_ge k 240 with h200 | h200
  · exact am_okR_at am_k131_200 (by omega) (by omega)
  rcases Nat.lt_or_ge k 280 with h240 | h240
  · exact am_okR_at am_k131_240 (by omega) (by omega)
  rcases Nat.lt_or_ge k 320 with h280 | h280
  · exact am_okR_at am_k131_280 (by omega) (by omega)
  rcases Nat.lt_or_ge k 360 with h320 | h320
  · exact am_okR_at am_k131_320 (by omega) (by omega)
  rcases Nat.lt_or_ge k 400 with h360 | h360
  · exact am_okR_at am_k131_360 (by omega) (by omega)
  rcases Nat.lt_or_ge k 440 with h400 | h400
  · exact am_okR_at am_k131_400 (by omega) (by omega)
  rcases Nat.lt_or_ge k 480 with h440 | h440
  · exact am_okR_at am_k131_440 (by omega) (by omega)
  rcases Nat.lt_or_ge k 520 with h480 | h480
  · exact am_okR_at am_k131_480 (by omega) (by omega)
  rcases Nat.lt_or_ge k 560 with h520 | h520
  · exact am_okR_at am_k131_520 (by omega) (by omega)
  rcases Nat.lt_or_ge k 569 with h560 | h560
  · exact am_okR_at am_k131_560 (by omega) (by omega)
  exact am_okA_end (List.getElem?_eq_none (show (am_tab 131).length ≤ k from h560))
theorem am_kst {P : Nat → Prop} {n : Nat} (h : ∀ i, i < n → P i) (hn : P n) : ∀ i, i < n + 1 → P i := fun i hi => (Nat.lt_or_ge i n).elim (h i) (fun g => (show n = i by omega) ▸ hn)
theorem am_kz {P : Nat → Prop} : ∀ i, i < 0 → P i := fun i h => absurd h (Nat.not_lt_zero i)
theorem am_ks20 : ∀ i, i < 20 → ∀ k, am_okA i k = true := am_kst (am_kst (am_kst (am_kst (am_kst (am_kst (am_kst (am_kst (am_kst (am_kst (am_kst (am_kst (am_kst (am_kst (am_kst (am_kst (am_kst (am_kst (am_kst (am_kst am_kz am_k0) am_k1) am_k2) am_k3) am_k4) am_k5) am_k6) am_k7) am_k8) am_k9) am_k10) am_k11) am_k12) am_k13) am_k14) am_k15) am_k16) am_k17) am_k18) am_k19
theorem am_ks40 : ∀ i, i < 40 → ∀ k, am_okA i k = true := am_kst (am_kst (am_kst (am_kst (am_kst (am_kst (am_kst (am_kst (am_kst (am_kst (am_kst (am_kst (am_kst (am_kst (am_kst (am_kst (am_kst (am_kst (am_kst (am_kst am_ks20 am_k20) am_k21) am_k22) am_k23) am_k24) am_k25) am_k26) am_k27) am_k28) am_k29) am_k30) am_k31) am_k32) am_k33) am_k34) am_k35) am_k36) am_k37) am_k38) am_k39
theorem am_ks60 : ∀ i, i < 60 → ∀ k, am_okA i k = true := am_kst (am_kst (am_kst (am_kst (am_kst (am_kst (am_kst (am_kst (am_kst (am_kst (am_kst (am_kst (am_kst (am_kst (am_kst (am_kst (am_kst (am_kst (am_kst (am_kst am_ks40 am_k40) am_k41) am_k42) am_k43) am_k44) am_k45) am_k46) am_k47) am_k48) am_k49) am_k50) am_k51) am_k52) am_k53) am_k54) am_k55) am_k56) am_k57) am_k58) am_k59
theorem am_ks80 : ∀ i, i < 80 → ∀ k, am_okA i k = true := am_kst (am_kst (am_kst (am_kst (am_kst (am_kst (am_kst (am_kst (am_kst (am_kst (am_kst (am_kst (am_kst (am_kst (am_kst (am_kst (am_kst (am_kst (am_kst (am_kst am_ks60 am_k60) am_k61) am_k62) am_k63) am_k64) am_k65) am_k66) am_k67) am_k68) am_k69) am_k70) am_k71) am_k72) am_k73) am_k74) am_k75) am_k76) am_k77) am_k78) am_k79
theorem am_ks100 : ∀ i, i < 100 → ∀ k, am_okA i k = true := am_kst (am_kst (am_kst (am_kst (am_kst (am_kst (am_kst (am_kst (am_kst (am_kst (am_kst (am_kst (am_kst (am_kst (am_kst (am_kst (am_kst (am_kst (am_kst (am_kst am_ks80 am_k80) am_k81) am_k82) am_k83) am_k84) am_k85) am_k86) am_k87) am_k88) am_k89) am_k90) am_k91) am_k92) am_k93) am_k94) am_k95) am_k96) am_k97) am_k98) am_k99
theorem am_ks120 : ∀ i, i < 120 → ∀ k, am_okA i k = true := am_kst (am_kst (am_kst (am_kst (am_kst (am_kst (am_kst (am_kst (am_kst (am_kst (am_kst (am_kst (am_kst (am_kst (am_kst (am_kst (am_kst (am_kst (am_kst (am_kst am_ks100 am_k100) am_k101) am_k102) am_k103) am_k104) am_k105) am_k106) am_k107) am_k108) am_k109) am_k110) am_k111) am_k112) am_k113) am_k114) am_k115) am_k116) am_k117) am_k118) am_k119
theorem am_ks132 : ∀ i, i < 132 → ∀ k, am_okA i k = true := am_kst (am_kst (am_kst (am_kst (am_kst (am_kst (am_kst (am_kst (am_kst (am_kst (am_kst (am_kst am_ks120 am_k120) am_k121) am_k122) am_k123) am_k124) am_k125) am_k126) am_k127) am_k128) am_k129) am_k130) am_k131
theorem am_tab_end {μ : Nat} (h : 132 ≤ μ) : am_tab μ = [] := by
  unfold am_tab
  rw [List.getElem?_eq_none (show am_tabs.length ≤ μ from h)]
  rfl
theorem am_ok {μ k : Nat} {e : am_En} (h : (am_tab μ)[k]? = some e) : am_okE μ k e = true := by
  rcases Nat.lt_or_ge μ 132 with g | g
  · have h1 := am_ks132 μ g k
    unfold am_okA at h1
    rw [h] at h1
    exact h1
  · rw [am_tab_end g] at h
    cases h
theorem am_m_0 : (List.range' 0 33).all am_okM = true := by decide +kernel
theorem am_m_33 : (List.range' 33 33).all am_okM = true := by decide +kernel
theorem am_m_66 : (List.range' 66 33).all am_okM = true := by decide +kernel
theorem am_m_99 : (List.range' 99 32).all am_okM = true := by decide +kernel
theorem am_okm {μ : Nat} (h : μ < am_law) : am_okM μ = true := by
  have h : μ < 131 := h
  rcases Nat.lt_or_ge μ 33 with g0 | g0
  · exact List.all_eq_true.mp am_m_0 μ (List.mem_range'_1.mpr ⟨by omega, by omega⟩)
  rcases Nat.lt_or_ge μ 66 with g33 | g33
  · exact List.all_eq_true.mp am_m_33 μ (List.mem_range'_1.mpr ⟨by omega, by omega⟩)
  rcases Nat.lt_or_ge μ 99 with g66 | g66
  · exact List.all_eq_true.mp am_m_66 μ (List.mem_range'_1.mpr ⟨by omega, by omega⟩)
  rcases Nat.lt_or_ge μ 131 with g99 | g99
  · exact List.all_eq_true.mp am_m_99 μ (List.mem_range'_1.mpr ⟨by omega, by omega⟩)
  omega
theorem am_good {w : Jvm.Cond} (h : w ∈ am_tbl) : goodWord w = true := (List.mem_filter.mp h).2
end
section
theorem am_wmax : Jvm.Cond.code Lib.Math.max.name Lib.Math.max.code 2 (some .int) ∈ am_tbl := am_wat_in (i := 406) (by decide +kernel)
theorem am_wmin : Jvm.Cond.code Lib.Math.min.name Lib.Math.min.code 2 (some .int) ∈ am_tbl := am_wat_in (i := 409) (by decide +kernel)
theorem am_wmath : Jvm.Cond.initialized "java/lang/Math" ∈ am_tbl := am_wat_in (i := 50) (by decide +kernel)

/-! numbers -/
theorem am_toInt {x : Int} (h : am_rng x) : (Int32.ofInt x).toInt = x := Int32.toInt_ofInt_of_le (by have := h.1; omega) (by have := h.2; omega)
theorem am_lt {x y : Int} (hx : am_rng x) (hy : am_rng y) : Int32.ofInt x < Int32.ofInt y ↔ x < y := by rw [Int32.lt_iff_toInt_lt, am_toInt hx, am_toInt hy]
theorem am_le {x y : Int} (hx : am_rng x) (hy : am_rng y) : Int32.ofInt x ≤ Int32.ofInt y ↔ x ≤ y := by rw [Int32.le_iff_toInt_le, am_toInt hx, am_toInt hy]
theorem am_eq {x y : Int} (hx : am_rng x) (hy : am_rng y) : Int32.ofInt x = Int32.ofInt y ↔ x = y := ⟨fun h => by
  have h1 := congrArg Int32.toInt h
  rwa [am_toInt hx, am_toInt hy] at h1, fun h => congrArg _ h⟩
theorem am_rng0 : am_rng 0 := ⟨by decide, by decide⟩
theorem am_of0 : Int32.ofInt 0 = 0 := rfl
theorem am_clamp {v : Int} {n : Nat} (hn : n < 2147483648) (h : 0 ≤ v ∧ v < n) : (Int32.ofInt v).toNatClampNeg = v.toNat := Int32.toNatClampNeg_ofInt_of_le (by omega) (by omega)
theorem am_vin {v : Int} {n : Nat} (hn : n < 2147483648) (h : 0 ≤ v ∧ v < n) : vp_in (Int32.ofInt v) n := by
  rw [vp_in_iff, am_toInt ⟨by omega, by omega⟩]
  exact h
theorem am_bool {x : Int} (h : x = 0 ∨ x = 1) : narrow .boolean (.int (Int32.ofInt x)) = .int (Int32.ofInt x) := by rcases h with rfl | rfl <;> decide
/-! the world -/
abbrev am_G : Type := va_G × (Nat → Nat) × ClassId × ClassId × ClassId
def am_vv (G : am_G) : am_V → Value
  | .inl x => .int (Int32.ofInt x)
  | .inr r => .ref (G.2.1 r)
theorem am_vv_cat (G : am_G) (v : am_V) : (am_vv G v).category = 1 := by cases v <;> rfl
def am_fv (G : am_G) (σk : Int → Int) (j : Nat) (r : Option Nat) : Value := match r with
  | some t => .ref (G.2.1 t)
  | none => .int (Int32.ofInt (σk (j : Int)))
def am_fs (G : am_G) (σk : Int → Int) (refs : List (Option Nat)) : List Value := refs.mapIdx (am_fv G σk)
def am_cell (G : am_G) (σk : Int → Int) (L : am_L) : va_E := match L with
  | (0, ci, refs) => .inr (ci, am_fs G σk refs)
  | (1, n, _) => .inl (G.2.2.1, n, .inl fun j => Int32.ofInt (σk (j : Int)))
  | (2, n, _) => .inl (G.2.2.2.1, n, .inl fun j => Int32.ofInt (σk (j : Int)))
  | (_, n, refs) => .inl (G.2.2.2.2, n, .inr (.inr (.inr (.inr fun j => ((refs[j]?).getD none).map G.2.1))))
def am_ws (G : am_G) (σ : am_S) : va_W := (am_lay.take am_NC).mapIdx fun k L => (G.2.1 k, am_cell G (σ k) L)
def am_tys (G : am_G) : List (ClassId × FieldType) := [(G.2.2.1, .int), (G.2.2.2.1, .boolean), (G.2.2.2.2, .object "LetterDays$Bundle")]
theorem am_lay_lt {r : Nat} {L : am_L} (h : am_lay[r]? = some L) (h4 : L.1 ≠ 4) : r < am_NC := by
  have h1 : r < am_lay.length := (List.getElem?_eq_some_iff.mp h).1
  have h2 : am_lay.length = am_NC + 1 := rfl
  rcases Nat.lt_or_ge r am_NC with g | g
  · exact g
  · have g2 : r = am_NC := by omega
    subst g2
    have h3 : am_lay[am_NC]? = some (4, 0, []) := rfl
    rw [h3] at h
    cases h
    exact absurd rfl h4
theorem am_ws_at (G : am_G) (σ : am_S) {r : Nat} {L : am_L} (h : am_lay[r]? = some L) (hr : r < am_NC) : (am_ws G σ)[r]? = some (G.2.1 r, am_cell G (σ r) L) := by
  unfold am_ws
  rw [List.getElem?_mapIdx, List.getElem?_take, if_pos hr, h]
  rfl
theorem am_ws_inv {G : am_G} {σ : am_S} {r : Nat} {q : Nat × va_E} (h : (am_ws G σ)[r]? = some q) : r < am_NC ∧ ∃ L, am_lay[r]? = some L ∧ q = (G.2.1 r, am_cell G (σ r) L) := by
  unfold am_ws at h
  rw [List.getElem?_mapIdx, List.getElem?_take] at h
  by_cases hr : r < am_NC
  · rw [if_pos hr] at h
    cases hL : am_lay[r]? with
    | none => rw [hL] at h; cases h
    | some L =>
      rw [hL] at h
      exact ⟨hr, L, rfl, (Option.some.inj h).symm⟩
  · rw [if_neg hr] at h
    cases h
theorem am_ws_D {G : am_G} {σ : am_S} {A : Nat → Prop} (h : va_D A (am_ws G σ)) (σ' : am_S) : va_D A (am_ws G σ') := by
  refine ⟨fun i j p q hi hj e => ?_, fun k q hk => ?_⟩
  · obtain ⟨i1, Li, hLi, rfl⟩ := am_ws_inv hi
    obtain ⟨j1, Lj, hLj, rfl⟩ := am_ws_inv hj
    exact h.1 i j _ _ (am_ws_at G σ hLi i1) (am_ws_at G σ hLj j1) e
  · obtain ⟨k1, L, hL, rfl⟩ := am_ws_inv hk
    have h1 := h.2 k _ (am_ws_at G σ hL k1)
    exact h1
theorem am_ws_set {G : am_G} {σ σ' : am_S} {r : Nat} {L : am_L} (h : am_lay[r]? = some L) (hr : r < am_NC) (ho : ∀ k, k ≠ r → σ' k = σ k) {E : va_E} (hE : E = am_cell G (σ' r) L) : (am_ws G σ).set r (G.2.1 r, E) = am_ws G σ' := by
  subst hE
  apply List.ext_getElem?
  intro i
  by_cases e : r = i
  · subst e
    rw [List.getElem?_set_self (List.getElem?_eq_some_iff.mp (am_ws_at G σ h hr)).1]
    exact (am_ws_at G σ' h hr).symm
  · rw [List.getElem?_set_ne e]
    unfold am_ws
    rw [List.getElem?_mapIdx, List.getElem?_mapIdx, ho i (Ne.symm e)]
theorem am_us_o {σ : am_S} {r : Nat} {i v : Int} {k : Nat} (h : k ≠ r) : am_us σ r i v k = σ k := by
  funext j
  unfold am_us
  rw [if_neg (fun q => h q.1)]
theorem am_us_s {σ : am_S} {r : Nat} {i v j : Int} : am_us σ r i v r j = if j = i then v else σ r j := by
  unfold am_us
  by_cases e : j = i
  · rw [if_pos ⟨rfl, e⟩, if_pos e]
  · rw [if_neg (fun q => e q.2), if_neg e]
theorem am_fs_set {G : am_G} {σ : am_S} {r y : Nat} {v : Int} {refs : List (Option Nat)} (h : refs[y]? = some none) : (am_fs G (σ r) refs).set y (.int (Int32.ofInt v)) = am_fs G (am_us σ r y v r) refs := by
  apply List.ext_getElem?
  intro i
  unfold am_fs
  by_cases e : y = i
  · subst e
    have hl : y < (refs.mapIdx (am_fv G (σ r))).length := by rw [List.length_mapIdx]; exact (List.getElem?_eq_some_iff.mp h).1
    rw [List.getElem?_set_self hl, List.getElem?_mapIdx, h]
    show some _ = some (Value.int (Int32.ofInt (am_us σ r y v r y)))
    rw [am_us_s, if_pos rfl]
  · rw [List.getElem?_set_ne e, List.getElem?_mapIdx, List.getElem?_mapIdx]
    cases refs[i]? with
    | none => rfl
    | some q =>
      cases q with
      | some t => rfl
      | none =>
        show some (Value.int (Int32.ofInt (σ r i))) = some (Value.int (Int32.ofInt (am_us σ r y v r i)))
        rw [am_us_s, if_neg (fun q => e (by omega))]
theorem am_upd {σ : am_S} {r : Nat} {i v : Int} {x : Int32} (h0 : 0 ≤ i) (hx : x = Int32.ofInt v) : upd (fun j : Nat => Int32.ofInt (σ r (j : Int))) i.toNat x = fun j : Nat => Int32.ofInt (am_us σ r i v r (j : Int)) := by
  funext j
  unfold upd
  rw [am_us_s]
  by_cases e : j = i.toNat
  · rw [if_pos e, if_pos (by omega), hx]
  · rw [if_neg e, if_neg (by omega)]
/-! the locals -/
def am_lm (G : am_G) (lv : List am_V) : List (Nat × Value) := lv.mapIdx fun i v => (i, am_vv G v)
def am_LV (G : am_G) (ls : Array Slot) (nL : Nat) (lv : List am_V) : Prop := lv_has ls nL (am_lm G lv)
theorem am_lm_at {G : am_G} {lv : List am_V} {a : Nat} {v : am_V} (h : lv[a]? = some v) : (am_lm G lv)[a]? = some (a, am_vv G v) := by
  unfold am_lm
  rw [List.getElem?_mapIdx, h]
  rfl
theorem am_lm_mem {G : am_G} {lv : List am_V} {q : Nat × Value} (h : q ∈ am_lm G lv) : ∃ a v, lv[a]? = some v ∧ q = (a, am_vv G v) := by
  obtain ⟨a, ha⟩ := List.getElem?_of_mem h
  unfold am_lm at ha
  rw [List.getElem?_mapIdx] at ha
  cases hv : lv[a]? with
  | none => rw [hv] at ha; cases ha
  | some v =>
    rw [hv] at ha
    exact ⟨a, v, hv, (Option.some.inj ha).symm⟩
theorem am_lset_at : ∀ (lv : List am_V) (a : Nat) (v : am_V) (j : Nat) (w : am_V), (am_lset lv a v)[j]? = some w → (j = a ∧ w = v) ∨ (j ≠ a ∧ lv[j]? = some w)
  | [], 0, v, 0, w, h => Or.inl ⟨rfl, (Option.some.inj h).symm⟩
  | [], 0, v, j + 1, w, h => by simp [am_lset] at h
  | [], a + 1, v, j, w, h => by simp [am_lset] at h
  | x :: xs, 0, v, 0, w, h => Or.inl ⟨rfl, (Option.some.inj h).symm⟩
  | x :: xs, 0, v, j + 1, w, h => Or.inr ⟨by omega, by simpa [am_lset] using h⟩
  | x :: xs, a + 1, v, 0, w, h => Or.inr ⟨by omega, h⟩
  | x :: xs, a + 1, v, j + 1, w, h => by
    have h1 : (am_lset xs a v)[j]? = some w := by simpa [am_lset] using h
    rcases am_lset_at xs a v j w h1 with ⟨h2, h3⟩ | ⟨h2, h3⟩
    · exact Or.inl ⟨by omega, h3⟩
    · exact Or.inr ⟨by omega, by simpa using h3⟩
theorem am_LV_set {G : am_G} {ls' : Array Slot} {nL a : Nat} {lv : List am_V} {v : am_V} (h : lv_has ls' nL ((a, am_vv G v) :: (am_lm G lv).filter (fun q => !(q.1 == a) && !(q.1 + 1 == a && q.2.category == 2)))) : am_LV G ls' nL (am_lset lv a v) := by
  refine ⟨h.1, h.2.1, fun q hq => h.2.2 q ?_⟩
  obtain ⟨j, w, hj, rfl⟩ := am_lm_mem hq
  rcases am_lset_at lv a v j w hj with ⟨rfl, rfl⟩ | ⟨h1, h2⟩
  · exact List.mem_cons_self
  · refine List.mem_cons_of_mem _ (List.mem_filter.mpr ⟨List.mem_of_getElem? (am_lm_at h2), ?_⟩)
    have h3 : (am_vv G w).category = 1 := am_vv_cat G w
    simp [h1, h3]
theorem am_LV_trunc {G : am_G} {ls : Array Slot} {nL : Nat} {lv lv' : List am_V} (h : am_LV G ls nL (lv ++ lv')) : am_LV G ls nL lv := by
  refine ⟨h.1, h.2.1, fun q hq => h.2.2 q ?_⟩
  obtain ⟨j, w, hj, rfl⟩ := am_lm_mem hq
  refine List.mem_of_getElem? (am_lm_at ?_)
  rw [List.getElem?_append_left (List.getElem?_eq_some_iff.mp hj).1]
  exact hj
theorem am_args : ∀ (i : Nat) (G : am_G) (lv : List am_V), lv_args i (lv.map (am_vv G)) = lv.mapIdx (fun j v => (i + j, am_vv G v))
  | i, G, [] => rfl
  | i, G, v :: vs => by
    rw [List.map_cons, lv_args, am_vv_cat, List.mapIdx_cons]
    rw [if_neg (by decide), am_args (i + 1) G vs]
    congr 1
    apply List.ext_getElem?
    intro j
    rw [List.getElem?_mapIdx, List.getElem?_mapIdx]
    cases vs[j]? with
    | none => rfl
    | some w => simp [Nat.add_comm, Nat.add_left_comm]
theorem am_sl (G : am_G) (lv : List am_V) : (lg_sl (lv.map (am_vv G))).length = lv.length := by
  induction lv with
  | nil => rfl
  | cons v vs ih =>
    show ((if (am_vv G v).category = 2 then _ else _) ++ lg_sl (vs.map (am_vv G))).length = _
    rw [am_vv_cat, if_neg (by decide), List.length_append, ih]
    simp
    omega
/-! the elimination of the step's cases -/
theorem am_gi_e {lv : List am_V} {a : Nat} {f : Int → Prop} (h : am_gi lv a f) : ∃ x, lv[a]? = some (.inl x) ∧ f x := by
  unfold am_gi at h
  split at h
  · exact ⟨_, by assumption, h⟩
  · exact h.elim
theorem am_gr_e {lv : List am_V} {a : Nat} {f : Nat → Prop} (h : am_gr lv a f) : ∃ x, lv[a]? = some (.inr x) ∧ f x := by
  unfold am_gr at h
  split at h
  · exact ⟨_, by assumption, h⟩
  · exact h.elim
theorem am_p1_e {st : List am_V} {f : Int → List am_V → Prop} (h : am_p1 st f) : ∃ x st', st = .inl x :: st' ∧ f x st' := by
  unfold am_p1 at h
  split at h
  · exact ⟨_, _, rfl, h⟩
  · exact h.elim
theorem am_r1_e {st : List am_V} {f : Nat → List am_V → Prop} (h : am_r1 st f) : ∃ x st', st = .inr x :: st' ∧ f x st' := by
  unfold am_r1 at h
  split at h
  · exact ⟨_, _, rfl, h⟩
  · exact h.elim
theorem am_p2_e {st : List am_V} {f : Int → Int → List am_V → Prop} (h : am_p2 st f) : ∃ x y st', st = .inl y :: .inl x :: st' ∧ f x y st' := by
  unfold am_p2 at h
  split at h
  · exact ⟨_, _, _, rfl, h⟩
  · exact h.elim
theorem am_pr_e {st : List am_V} {f : Int → Nat → List am_V → Prop} (h : am_pr st f) : ∃ x r st', st = .inl x :: .inr r :: st' ∧ f x r st' := by
  unfold am_pr at h
  split at h
  · exact ⟨_, _, _, rfl, h⟩
  · exact h.elim
theorem am_pir_e {st : List am_V} {f : Int → Int → Nat → List am_V → Prop} (h : am_pir st f) : ∃ x i r st', st = .inl x :: .inl i :: .inr r :: st' ∧ f x i r st' := by
  unfold am_pir at h
  split at h
  · exact ⟨_, _, _, _, rfl, h⟩
  · exact h.elim
theorem am_g_e {b : Bool} {P : Prop} (h : am_g b P) : b = true ∧ P := by
  cases b with
  | true => exact ⟨rfl, h⟩
  | false => exact h.elim
theorem am_fld_e {r ci y : Nat} {fr : Nat → Prop} {fi : Prop} (h : am_fld r ci y fr fi) : ∃ refs, am_lay[r]? = some (0, ci, refs) ∧ ((∃ t, refs[y]? = some (some t) ∧ fr t) ∨ (refs[y]? = some none ∧ fi)) := by
  unfold am_fld at h
  split at h
  · rename_i c refs hl
    obtain ⟨h1, h2⟩ := am_g_e h
    have h3 : c = ci := Nat.eq_of_beq_eq_true h1
    subst h3
    refine ⟨refs, hl, ?_⟩
    split at h2
    · exact Or.inl ⟨_, by assumption, h2⟩
    · exact Or.inr ⟨by assumption, h2⟩
    · exact h2.elim
  · exact h.elim
theorem am_isO_e {r ci : Nat} (h : am_isO r ci = true) : ∃ refs, am_lay[r]? = some (0, ci, refs) := by
  unfold am_isO at h
  split at h
  · rename_i c refs hl
    have h3 : c = ci := Nat.eq_of_beq_eq_true h
    subst h3
    exact ⟨refs, hl⟩
  · cases h
theorem am_ok2 {μ k pc len x y : Nat} {i : Instr} {c : Int} {z : List Nat} (he : (am_tab μ)[k]? = some (pc, i, len, x, y, c, z)) : decode (am_met μ).2.1 pc = .ok (i, len) ∧ am_okI μ k pc len i x y c z = true ∧ am_pc μ k = pc := by
  have h := am_ok he
  obtain ⟨h1, h2⟩ := Bool.and_eq_true_iff.mp h
  refine ⟨of_decide_eq_true h1, h2, ?_⟩
  unfold am_pc
  rw [he]
  rfl
theorem am_nx_e {μ k pc n len : Nat} (h : am_nx μ k pc n len = true) : len = n ∧ am_pc μ (k + 1) = pc + n := by
  obtain ⟨h1, h2⟩ := Bool.and_eq_true_iff.mp h
  exact ⟨Nat.eq_of_beq_eq_true h1, Nat.eq_of_beq_eq_true h2⟩
/-! the machine's own judgement, in the abstract machine's words -/
def am_scr (G : am_G) (sc : Int → Int) (μ : Nat) (σ : am_S) (s : State) (A : Nat → Prop) : Prop := σ am_NC = sc ∧ (μ = am_law → ∃ (L : Nat) (xs : Nat → Int32), va_X (G.2.1 am_NC) L xs s s.heap ∧ G.2.1 am_NC < s.heap.size ∧ ¬ A (G.2.1 am_NC) ∧ σ am_NC (-1) = (L : Int) ∧ L < 2147483648 ∧ ∀ j : Nat, j < L → xs j = Int32.ofInt (σ am_NC (j : Int)))
def am_X (G : am_G) (sc : Int → Int) (d μ : Nat) (σ : am_S) (p : Program) (R : Room) (s : State) (m : MethodId) (args : Array Value) (c : Code) (H : Heap) (locs : List Loc) (cells slots : Nat) (A : Nat → Prop) : Prop :=
  p.tables.exec = Jvm.exec ∧ c.code = (am_met μ).2.1 ∧ c.maxLocals = (am_met μ).2.2.1 ∧ s.vm.findClass (am_met μ).1.cls = some m.cls ∧ (∀ w ∈ am_tbl, w.before args s = true) ∧ (d ≤ R.frames ∧ 64 * d ≤ R.locals ∧ cells ≤ R.cells ∧ slots ≤ R.slots) ∧
  va_K G.1 am_cls (am_tys G) s ∧ va_P G.1 am_cls (am_ws G σ) H ∧ va_D A (am_ws G σ) ∧ va_S A s.heap H locs ∧ (∀ q : Nat, s.heap.size ≤ q → A q) ∧ am_scr G sc μ σ s A
def am_rt (μ : Nat) (o : Option Int) : Prop := match o with
  | none => (am_met μ).2.2.2.1 = none
  | some x => ∃ ty, (am_met μ).2.2.2.1 = some ty ∧ narrow ty (.int (Int32.ofInt x)) = .int (Int32.ofInt x)
def am_ri (o : Option Int) : Instr := match o with
  | none => .return_
  | some _ => .ireturn
def am_KM (l : Launch) (G : am_G) : am_KT := fun d μ k lv st σ Q =>
  ∀ (p : Program) (e : Env) (R : Room) (s : State) (m : MethodId) (args : Array Value) (below : List Frame) (meth : Method) (c : Code) (H : Heap) (locs : List Loc) (cells slots : Nat) (ls : Array Slot) (A : Nat → Prop) (Z : State → Prop) (sc : Int → Int),
    am_X G sc d μ σ p R s m args c H locs cells slots A → am_LV G ls (am_met μ).2.2.1 lv →
    (∀ (o : Option Int) (σ' : am_S) (H' : Heap) (locs' : List Loc) (pc : Nat) (ls' : Array Slot), Q o σ' → am_X G sc d μ σ' p R s m args c H' locs' cells slots A → am_rt μ o → decode (am_met μ).2.1 pc = .ok (am_ri o, 1) → W p l e R s m args below meth c H' locs' cells slots Z (F0 m pc ls' ((am_o o).map (am_vv G)))) →
    W p l e R s m args below meth c H locs cells slots Z (F0 m (am_pc μ k) ls (st.map (am_vv G)))
/-- a store keeps what is known -/
theorem am_X_set {G : am_G} {d μ : Nat} {σ : am_S} {p : Program} {R : Room} {s : State} {m : MethodId} {args : Array Value} {c : Code} {H H1 : Heap} {locs locs1 : List Loc} {cells slots : Nat} {A : Nat → Prop} {sc : Int → Int} (hX : am_X G sc d μ σ p R s m args c H locs cells slots A)
    {r : Nat} {L : am_L} (hL : am_lay[r]? = some L) (hr : r < am_NC) {i v : Int} {E : va_E} (hE : E = am_cell G (am_us σ r i v r) L) (hP : va_P G.1 am_cls ((am_ws G σ).set r (G.2.1 r, E)) H1) (hS : va_S A s.heap H1 locs1) : am_X G sc d μ (am_us σ r i v) p R s m args c H1 locs1 cells slots A := by
  obtain ⟨hx, hb, hml, hown, hts, hroom, hK, -, hD, -, hA, hsc⟩ := hX
  rw [am_ws_set hL hr (fun k hk => am_us_o hk) hE] at hP
  refine ⟨hx, hb, hml, hown, hts, hroom, hK, hP, am_ws_D hD _, hS, hA, ?_⟩
  have hne : am_NC ≠ r := by omega
  refine ⟨by rw [am_us_o hne]; exact hsc.1, fun hμ => ?_⟩
  obtain ⟨L, xs, h1, h2, h3, h4, h5, h6⟩ := hsc.2 hμ
  exact ⟨L, xs, h1, h2, h3, by rw [am_us_o hne]; exact h4, h5, fun j hj => by rw [am_us_o hne]; exact h6 j hj⟩
theorem am_lens {r : Nat} {k n : Nat} {refs : List (Option Nat)} (h : am_lay[r]? = some (k, n, refs)) : n < 2147483648 := by
  have h1 : (am_lay.all fun L => Nat.blt L.2.1 2147483648) = true := by decide +kernel
  have h2 := List.all_eq_true.mp h1 _ (List.mem_of_getElem? h)
  exact Nat.le_of_ble_eq_true h2
theorem am_cls_ok {ci : Nat} {q : vw_C} (h : am_cls[ci]? = some q) : (∀ w ∈ u_ws q.1 q.2.1 q.2.2, w ∈ am_tbl) ∧ (∃ ty0 : Nat → FieldType, ∀ k, k < q.2.2 → parseFieldDescriptor (q.2.1 k).2.2.1 = some (ty0 k)) ∧ (∀ a, a < q.2.2 → ∀ b, b < q.2.2 → a ≠ b → (q.2.1 a).2.1 ≠ (q.2.1 b).2.1) := by
  match ci, h with
  | 0, h => cases h; exact ⟨am_igX0, ⟨tyX0, tyX0_ok⟩, nmX0⟩
  | 1, h => cases h; exact ⟨am_igX1, ⟨tyX1, tyX1_ok⟩, nmX1⟩
  | 2, h => cases h; exact ⟨am_igX2, ⟨tyX2, tyX2_ok⟩, nmX2⟩
  | 3, h => cases h; exact ⟨am_igX3, ⟨tyX3, tyX3_ok⟩, nmX3⟩
  | 4, h => cases h; exact ⟨am_igX4, ⟨tyX4, tyX4_ok⟩, nmX4⟩
  | 5, h => cases h; exact ⟨am_igX5, ⟨tyX5, tyX5_ok⟩, nmX5⟩
  | 6, h => cases h; exact ⟨am_igX6, ⟨tyX6, tyX6_ok⟩, nmX6⟩
  | 7, h => cases h; exact ⟨am_igX7, ⟨tyX7, tyX7_ok⟩, nmX7⟩
  | 8, h => cases h; exact ⟨am_igX8, ⟨tyX8, tyX8_ok⟩, nmX8⟩
  | n + 9, h => cases h
theorem am_T_at {ci : Nat} {q : vw_C} (h : am_cls[ci]? = some q) : am_T ci = q := by
  unfold am_T
  rw [h]
  rfl
theorem am_lay_cls {r ci : Nat} {refs : List (Option Nat)} (h : am_lay[r]? = some (0, ci, refs)) : am_cls[ci]? = some (am_T ci) ∧ refs.length = (am_T ci).2.2 := by
  have h1 : (am_lay.all fun L => !(Nat.beq L.1 0) || (Nat.blt L.2.1 9 && Nat.beq L.2.2.length (am_T L.2.1).2.2)) = true := by decide +kernel
  have h2 := List.all_eq_true.mp h1 _ (List.mem_of_getElem? h)
  have h3 : (Nat.blt ci 9 && Nat.beq refs.length (am_T ci).2.2) = true := h2
  obtain ⟨h4, h5⟩ := Bool.and_eq_true_iff.mp h3
  have h6 : ci < 9 := Nat.le_of_ble_eq_true h4
  refine ⟨?_, Nat.eq_of_beq_eq_true h5⟩
  have h7 : ci < am_cls.length := h6
  unfold am_T
  rw [List.getElem?_eq_getElem h7]
  rfl

theorem am_s_iconst {l : Launch} {G : am_G} {d μ k : Nat} {lv st : List am_V} {σ : am_S} {Q : am_Q} {pc len x y : Nat} {c : Int} {z : List Nat} {n : Int} (he : (am_tab μ)[k]? = some (pc, .iconst n, len, x, y, c, z)) (h : am_ins (am_KM l G) d μ k lv st σ Q (.iconst n) x y c z) : am_KM l G d μ k lv st σ Q := by
  obtain ⟨hdg, hok, hpc⟩ := am_ok2 he
  obtain ⟨rfl, hnx⟩ := am_nx_e hok
  intro p e R s m args below meth c0 H locs cells slots ls A Z sc hX hl hR
  obtain ⟨hx, hb, hml, hown, hts, hroom, hK, hP, hD, hS, hA, hsc⟩ := id hX
  rw [hpc]
  have w := h p e R s m args below meth c0 H locs cells slots ls A Z sc hX hl hR
  rw [hnx] at w
  exact lv_iconst hx hb hdg rfl w
theorem am_s_bipush {l : Launch} {G : am_G} {d μ k : Nat} {lv st : List am_V} {σ : am_S} {Q : am_Q} {pc len x y : Nat} {c : Int} {z : List Nat} {n : Int} (he : (am_tab μ)[k]? = some (pc, .bipush n, len, x, y, c, z)) (h : am_ins (am_KM l G) d μ k lv st σ Q (.bipush n) x y c z) : am_KM l G d μ k lv st σ Q := by
  obtain ⟨hdg, hok, hpc⟩ := am_ok2 he
  obtain ⟨hok, hv⟩ := Bool.and_eq_true_iff.mp hok
  obtain ⟨rfl, hnx⟩ := am_nx_e hok
  intro p e R s m args below meth c0 H locs cells slots ls A Z sc hX hl hR
  obtain ⟨hx, hb, hml, hown, hts, hroom, hK, hP, hD, hS, hA, hsc⟩ := id hX
  rw [hpc]
  have w := h p e R s m args below meth c0 H locs cells slots ls A Z sc hX hl hR
  rw [hnx] at w
  exact lv_bipush hx hb hdg (of_decide_eq_true hv) w
theorem am_s_sipush {l : Launch} {G : am_G} {d μ k : Nat} {lv st : List am_V} {σ : am_S} {Q : am_Q} {pc len x y : Nat} {c : Int} {z : List Nat} {n : Int} (he : (am_tab μ)[k]? = some (pc, .sipush n, len, x, y, c, z)) (h : am_ins (am_KM l G) d μ k lv st σ Q (.sipush n) x y c z) : am_KM l G d μ k lv st σ Q := by
  obtain ⟨hdg, hok, hpc⟩ := am_ok2 he
  obtain ⟨hok, hv⟩ := Bool.and_eq_true_iff.mp hok
  obtain ⟨rfl, hnx⟩ := am_nx_e hok
  intro p e R s m args below meth c0 H locs cells slots ls A Z sc hX hl hR
  obtain ⟨hx, hb, hml, hown, hts, hroom, hK, hP, hD, hS, hA, hsc⟩ := id hX
  rw [hpc]
  have w := h p e R s m args below meth c0 H locs cells slots ls A Z sc hX hl hR
  rw [hnx] at w
  exact lv_sipush hx hb hdg (of_decide_eq_true hv) w
theorem am_s_ldc {l : Launch} {G : am_G} {d μ k : Nat} {lv st : List am_V} {σ : am_S} {Q : am_Q} {pc len x y : Nat} {c : Int} {z : List Nat} {n : Nat} (he : (am_tab μ)[k]? = some (pc, .ldc n, len, x, y, c, z)) (h : am_ins (am_KM l G) d μ k lv st σ Q (.ldc n) x y c z) : am_KM l G d μ k lv st σ Q := by
  obtain ⟨hdg, hok, hpc⟩ := am_ok2 he
  obtain ⟨hok, hv⟩ := Bool.and_eq_true_iff.mp hok
  obtain ⟨rfl, hnx⟩ := am_nx_e hok
  intro p e R s m args below meth c0 H locs cells slots ls A Z sc hX hl hR
  obtain ⟨hx, hb, hml, hown, hts, hroom, hK, hP, hD, hS, hA, hsc⟩ := id hX
  rw [hpc]
  have w := h p e R s m args below meth c0 H locs cells slots ls A Z sc hX hl hR
  rw [hnx] at w
  exact lv_ldc hx hb hown (hts _ (am_wat_in hv)) hdg w
theorem am_s_ldc_w {l : Launch} {G : am_G} {d μ k : Nat} {lv st : List am_V} {σ : am_S} {Q : am_Q} {pc len x y : Nat} {c : Int} {z : List Nat} {n : Nat} (he : (am_tab μ)[k]? = some (pc, .ldc_w n, len, x, y, c, z)) (h : am_ins (am_KM l G) d μ k lv st σ Q (.ldc_w n) x y c z) : am_KM l G d μ k lv st σ Q := by
  obtain ⟨hdg, hok, hpc⟩ := am_ok2 he
  obtain ⟨hok, hv⟩ := Bool.and_eq_true_iff.mp hok
  obtain ⟨rfl, hnx⟩ := am_nx_e hok
  intro p e R s m args below meth c0 H locs cells slots ls A Z sc hX hl hR
  obtain ⟨hx, hb, hml, hown, hts, hroom, hK, hP, hD, hS, hA, hsc⟩ := id hX
  rw [hpc]
  have w := h p e R s m args below meth c0 H locs cells slots ls A Z sc hX hl hR
  rw [hnx] at w
  exact lv_ldcw hx hb hown (hts _ (am_wat_in hv)) hdg w
theorem am_s_iload_n {l : Launch} {G : am_G} {d μ k : Nat} {lv st : List am_V} {σ : am_S} {Q : am_Q} {pc len x y : Nat} {c : Int} {z : List Nat} {a : Fin 4} (he : (am_tab μ)[k]? = some (pc, .iload_n a, len, x, y, c, z)) (h : am_ins (am_KM l G) d μ k lv st σ Q (.iload_n a) x y c z) : am_KM l G d μ k lv st σ Q := by
  obtain ⟨hdg, hok, hpc⟩ := am_ok2 he
  obtain ⟨rfl, hnx⟩ := am_nx_e hok
  obtain ⟨v, hv, h⟩ := am_gi_e h
  intro p e R s m args below meth c0 H locs cells slots ls A Z sc hX hl hR
  obtain ⟨hx, hb, hml, hown, hts, hroom, hK, hP, hD, hS, hA, hsc⟩ := id hX
  rw [hpc]
  have w := h p e R s m args below meth c0 H locs cells slots ls A Z sc hX hl hR
  rw [hnx] at w
  exact lv_iload_n hx hb hdg rfl (lv_at hl _ (am_lm_at hv)) w
theorem am_s_aload_n {l : Launch} {G : am_G} {d μ k : Nat} {lv st : List am_V} {σ : am_S} {Q : am_Q} {pc len x y : Nat} {c : Int} {z : List Nat} {a : Fin 4} (he : (am_tab μ)[k]? = some (pc, .aload_n a, len, x, y, c, z)) (h : am_ins (am_KM l G) d μ k lv st σ Q (.aload_n a) x y c z) : am_KM l G d μ k lv st σ Q := by
  obtain ⟨hdg, hok, hpc⟩ := am_ok2 he
  obtain ⟨rfl, hnx⟩ := am_nx_e hok
  obtain ⟨v, hv, h⟩ := am_gr_e h
  intro p e R s m args below meth c0 H locs cells slots ls A Z sc hX hl hR
  obtain ⟨hx, hb, hml, hown, hts, hroom, hK, hP, hD, hS, hA, hsc⟩ := id hX
  rw [hpc]
  have w := h p e R s m args below meth c0 H locs cells slots ls A Z sc hX hl hR
  rw [hnx] at w
  exact lv_aload_n hx hb hdg rfl (lv_at hl _ (am_lm_at hv)) w
theorem am_s_iload {l : Launch} {G : am_G} {d μ k : Nat} {lv st : List am_V} {σ : am_S} {Q : am_Q} {pc len x y : Nat} {c : Int} {z : List Nat} {a : Nat} (he : (am_tab μ)[k]? = some (pc, .iload a, len, x, y, c, z)) (h : am_ins (am_KM l G) d μ k lv st σ Q (.iload a) x y c z) : am_KM l G d μ k lv st σ Q := by
  obtain ⟨hdg, hok, hpc⟩ := am_ok2 he
  obtain ⟨rfl, hnx⟩ := am_nx_e hok
  obtain ⟨v, hv, h⟩ := am_gi_e h
  intro p e R s m args below meth c0 H locs cells slots ls A Z sc hX hl hR
  obtain ⟨hx, hb, hml, hown, hts, hroom, hK, hP, hD, hS, hA, hsc⟩ := id hX
  rw [hpc]
  have w := h p e R s m args below meth c0 H locs cells slots ls A Z sc hX hl hR
  rw [hnx] at w
  exact lv_iload hx hb hdg (lv_at hl _ (am_lm_at hv)) w
theorem am_s_aload {l : Launch} {G : am_G} {d μ k : Nat} {lv st : List am_V} {σ : am_S} {Q : am_Q} {pc len x y : Nat} {c : Int} {z : List Nat} {a : Nat} (he : (am_tab μ)[k]? = some (pc, .aload a, len, x, y, c, z)) (h : am_ins (am_KM l G) d μ k lv st σ Q (.aload a) x y c z) : am_KM l G d μ k lv st σ Q := by
  obtain ⟨hdg, hok, hpc⟩ := am_ok2 he
  obtain ⟨rfl, hnx⟩ := am_nx_e hok
  obtain ⟨v, hv, h⟩ := am_gr_e h
  intro p e R s m args below meth c0 H locs cells slots ls A Z sc hX hl hR
  obtain ⟨hx, hb, hml, hown, hts, hroom, hK, hP, hD, hS, hA, hsc⟩ := id hX
  rw [hpc]
  have w := h p e R s m args below meth c0 H locs cells slots ls A Z sc hX hl hR
  rw [hnx] at w
  exact lv_aload hx hb hdg (lv_at hl _ (am_lm_at hv)) w
theorem am_s_istore_n {l : Launch} {G : am_G} {d μ k : Nat} {lv st : List am_V} {σ : am_S} {Q : am_Q} {pc len x y : Nat} {c : Int} {z : List Nat} {a : Fin 4} (he : (am_tab μ)[k]? = some (pc, .istore_n a, len, x, y, c, z)) (h : am_ins (am_KM l G) d μ k lv st σ Q (.istore_n a) x y c z) : am_KM l G d μ k lv st σ Q := by
  obtain ⟨hdg, hok, hpc⟩ := am_ok2 he
  obtain ⟨hok, ha⟩ := Bool.and_eq_true_iff.mp hok
  obtain ⟨rfl, hnx⟩ := am_nx_e hok
  obtain ⟨v, st', rfl, h⟩ := am_p1_e h
  intro p e R s m args below meth c0 H locs cells slots ls A Z sc hX hl hR
  obtain ⟨hx, hb, hml, hown, hts, hroom, hK, hP, hD, hS, hA, hsc⟩ := id hX
  rw [hpc]
  refine lv_istore_n hx hb hdg rfl hl (of_decide_eq_true ha) rfl (fun ls' hl' => ?_)
  have w := h p e R s m args below meth c0 H locs cells slots ls' A Z sc hX (am_LV_set hl') hR
  rw [hnx] at w
  exact w
theorem am_s_astore_n {l : Launch} {G : am_G} {d μ k : Nat} {lv st : List am_V} {σ : am_S} {Q : am_Q} {pc len x y : Nat} {c : Int} {z : List Nat} {a : Fin 4} (he : (am_tab μ)[k]? = some (pc, .astore_n a, len, x, y, c, z)) (h : am_ins (am_KM l G) d μ k lv st σ Q (.astore_n a) x y c z) : am_KM l G d μ k lv st σ Q := by
  obtain ⟨hdg, hok, hpc⟩ := am_ok2 he
  obtain ⟨hok, ha⟩ := Bool.and_eq_true_iff.mp hok
  obtain ⟨rfl, hnx⟩ := am_nx_e hok
  obtain ⟨v, st', rfl, h⟩ := am_r1_e h
  intro p e R s m args below meth c0 H locs cells slots ls A Z sc hX hl hR
  obtain ⟨hx, hb, hml, hown, hts, hroom, hK, hP, hD, hS, hA, hsc⟩ := id hX
  rw [hpc]
  refine lv_astore_n hx hb hdg rfl hl (of_decide_eq_true ha) rfl (fun ls' hl' => ?_)
  have w := h p e R s m args below meth c0 H locs cells slots ls' A Z sc hX (am_LV_set hl') hR
  rw [hnx] at w
  exact w
theorem am_s_istore {l : Launch} {G : am_G} {d μ k : Nat} {lv st : List am_V} {σ : am_S} {Q : am_Q} {pc len x y : Nat} {c : Int} {z : List Nat} {a : Nat} (he : (am_tab μ)[k]? = some (pc, .istore a, len, x, y, c, z)) (h : am_ins (am_KM l G) d μ k lv st σ Q (.istore a) x y c z) : am_KM l G d μ k lv st σ Q := by
  obtain ⟨hdg, hok, hpc⟩ := am_ok2 he
  obtain ⟨hok, ha⟩ := Bool.and_eq_true_iff.mp hok
  obtain ⟨rfl, hnx⟩ := am_nx_e hok
  obtain ⟨v, st', rfl, h⟩ := am_p1_e h
  intro p e R s m args below meth c0 H locs cells slots ls A Z sc hX hl hR
  obtain ⟨hx, hb, hml, hown, hts, hroom, hK, hP, hD, hS, hA, hsc⟩ := id hX
  rw [hpc]
  refine lv_istore hx hb hdg hl (of_decide_eq_true ha) rfl (fun ls' hl' => ?_)
  have w := h p e R s m args below meth c0 H locs cells slots ls' A Z sc hX (am_LV_set hl') hR
  rw [hnx] at w
  exact w
theorem am_s_astore {l : Launch} {G : am_G} {d μ k : Nat} {lv st : List am_V} {σ : am_S} {Q : am_Q} {pc len x y : Nat} {c : Int} {z : List Nat} {a : Nat} (he : (am_tab μ)[k]? = some (pc, .astore a, len, x, y, c, z)) (h : am_ins (am_KM l G) d μ k lv st σ Q (.astore a) x y c z) : am_KM l G d μ k lv st σ Q := by
  obtain ⟨hdg, hok, hpc⟩ := am_ok2 he
  obtain ⟨hok, ha⟩ := Bool.and_eq_true_iff.mp hok
  obtain ⟨rfl, hnx⟩ := am_nx_e hok
  obtain ⟨v, st', rfl, h⟩ := am_r1_e h
  intro p e R s m args below meth c0 H locs cells slots ls A Z sc hX hl hR
  obtain ⟨hx, hb, hml, hown, hts, hroom, hK, hP, hD, hS, hA, hsc⟩ := id hX
  rw [hpc]
  refine lv_astore hx hb hdg hl (of_decide_eq_true ha) rfl (fun ls' hl' => ?_)
  have w := h p e R s m args below meth c0 H locs cells slots ls' A Z sc hX (am_LV_set hl') hR
  rw [hnx] at w
  exact w
theorem am_s_iinc {l : Launch} {G : am_G} {d μ k : Nat} {lv st : List am_V} {σ : am_S} {Q : am_Q} {pc len x y : Nat} {c : Int} {z : List Nat} {a : Nat} {n : Int} (he : (am_tab μ)[k]? = some (pc, .iinc a n, len, x, y, c, z)) (h : am_ins (am_KM l G) d μ k lv st σ Q (.iinc a n) x y c z) : am_KM l G d μ k lv st σ Q := by
  obtain ⟨hdg, hok, hpc⟩ := am_ok2 he
  obtain ⟨hok, ha⟩ := Bool.and_eq_true_iff.mp hok
  obtain ⟨rfl, hnx⟩ := am_nx_e hok
  obtain ⟨v, hv, h⟩ := am_gi_e h
  intro p e R s m args below meth c0 H locs cells slots ls A Z sc hX hl hR
  obtain ⟨hx, hb, hml, hown, hts, hroom, hK, hP, hD, hS, hA, hsc⟩ := id hX
  rw [hpc]
  refine lv_iinc (v := Int32.ofInt (v + n)) hx hb hdg hl (am_lm_at hv) (Int32.ofInt_add v n).symm (of_decide_eq_true ha) rfl (fun ls' hl' => ?_)
  have w := h p e R s m args below meth c0 H locs cells slots ls' A Z sc hX (am_LV_set hl') hR
  rw [hnx] at w
  exact w
theorem am_s_iadd {l : Launch} {G : am_G} {d μ k : Nat} {lv st : List am_V} {σ : am_S} {Q : am_Q} {pc len x y : Nat} {c : Int} {z : List Nat} (he : (am_tab μ)[k]? = some (pc, .iadd, len, x, y, c, z)) (h : am_ins (am_KM l G) d μ k lv st σ Q (.iadd) x y c z) : am_KM l G d μ k lv st σ Q := by
  obtain ⟨hdg, hok, hpc⟩ := am_ok2 he
  obtain ⟨rfl, hnx⟩ := am_nx_e hok
  obtain ⟨a, b, st', rfl, h⟩ := am_p2_e h
  intro p e R s m args below meth c0 H locs cells slots ls A Z sc hX hl hR
  obtain ⟨hx, hb, hml, hown, hts, hroom, hK, hP, hD, hS, hA, hsc⟩ := id hX
  rw [hpc]
  have w := h p e R s m args below meth c0 H locs cells slots ls A Z sc hX hl hR
  rw [hnx] at w
  refine lv_iadd hx hb hdg ?_
  rw [← Int32.ofInt_add]
  exact w
theorem am_s_isub {l : Launch} {G : am_G} {d μ k : Nat} {lv st : List am_V} {σ : am_S} {Q : am_Q} {pc len x y : Nat} {c : Int} {z : List Nat} (he : (am_tab μ)[k]? = some (pc, .isub, len, x, y, c, z)) (h : am_ins (am_KM l G) d μ k lv st σ Q (.isub) x y c z) : am_KM l G d μ k lv st σ Q := by
  obtain ⟨hdg, hok, hpc⟩ := am_ok2 he
  obtain ⟨rfl, hnx⟩ := am_nx_e hok
  obtain ⟨a, b, st', rfl, h⟩ := am_p2_e h
  intro p e R s m args below meth c0 H locs cells slots ls A Z sc hX hl hR
  obtain ⟨hx, hb, hml, hown, hts, hroom, hK, hP, hD, hS, hA, hsc⟩ := id hX
  rw [hpc]
  have w := h p e R s m args below meth c0 H locs cells slots ls A Z sc hX hl hR
  rw [hnx] at w
  refine lv_isub hx hb hdg ?_
  rw [← Int32.ofInt_sub]
  exact w
theorem am_s_imul {l : Launch} {G : am_G} {d μ k : Nat} {lv st : List am_V} {σ : am_S} {Q : am_Q} {pc len x y : Nat} {c : Int} {z : List Nat} (he : (am_tab μ)[k]? = some (pc, .imul, len, x, y, c, z)) (h : am_ins (am_KM l G) d μ k lv st σ Q (.imul) x y c z) : am_KM l G d μ k lv st σ Q := by
  obtain ⟨hdg, hok, hpc⟩ := am_ok2 he
  obtain ⟨rfl, hnx⟩ := am_nx_e hok
  obtain ⟨a, b, st', rfl, h⟩ := am_p2_e h
  intro p e R s m args below meth c0 H locs cells slots ls A Z sc hX hl hR
  obtain ⟨hx, hb, hml, hown, hts, hroom, hK, hP, hD, hS, hA, hsc⟩ := id hX
  rw [hpc]
  have w := h p e R s m args below meth c0 H locs cells slots ls A Z sc hX hl hR
  rw [hnx] at w
  refine lv_imul hx hb hdg ?_
  rw [← Int32.ofInt_mul]
  exact w
theorem am_s_iand {l : Launch} {G : am_G} {d μ k : Nat} {lv st : List am_V} {σ : am_S} {Q : am_Q} {pc len x y : Nat} {c : Int} {z : List Nat} (he : (am_tab μ)[k]? = some (pc, .iand, len, x, y, c, z)) (h : am_ins (am_KM l G) d μ k lv st σ Q (.iand) x y c z) : am_KM l G d μ k lv st σ Q := by
  obtain ⟨hdg, hok, hpc⟩ := am_ok2 he
  obtain ⟨rfl, hnx⟩ := am_nx_e hok
  obtain ⟨a, b, st', rfl, h⟩ := am_p2_e h
  intro p e R s m args below meth c0 H locs cells slots ls A Z sc hX hl hR
  obtain ⟨hx, hb, hml, hown, hts, hroom, hK, hP, hD, hS, hA, hsc⟩ := id hX
  rw [hpc]
  have w := h p e R s m args below meth c0 H locs cells slots ls A Z sc hX hl hR
  rw [hnx] at w
  refine lv_iand hx hb hdg ?_
  rw [List.map_cons, show am_vv G (.inl (am_and a b)) = Value.int (Int32.ofInt (am_and a b)) from rfl, am_and, Int32.ofInt_toInt] at w
  exact w
theorem am_s_ior {l : Launch} {G : am_G} {d μ k : Nat} {lv st : List am_V} {σ : am_S} {Q : am_Q} {pc len x y : Nat} {c : Int} {z : List Nat} (he : (am_tab μ)[k]? = some (pc, .ior, len, x, y, c, z)) (h : am_ins (am_KM l G) d μ k lv st σ Q (.ior) x y c z) : am_KM l G d μ k lv st σ Q := by
  obtain ⟨hdg, hok, hpc⟩ := am_ok2 he
  obtain ⟨rfl, hnx⟩ := am_nx_e hok
  obtain ⟨a, b, st', rfl, h⟩ := am_p2_e h
  intro p e R s m args below meth c0 H locs cells slots ls A Z sc hX hl hR
  obtain ⟨hx, hb, hml, hown, hts, hroom, hK, hP, hD, hS, hA, hsc⟩ := id hX
  rw [hpc]
  have w := h p e R s m args below meth c0 H locs cells slots ls A Z sc hX hl hR
  rw [hnx] at w
  refine lv_ior hx hb hdg ?_
  rw [List.map_cons, show am_vv G (.inl (am_or a b)) = Value.int (Int32.ofInt (am_or a b)) from rfl, am_or, Int32.ofInt_toInt] at w
  exact w
theorem am_s_ixor {l : Launch} {G : am_G} {d μ k : Nat} {lv st : List am_V} {σ : am_S} {Q : am_Q} {pc len x y : Nat} {c : Int} {z : List Nat} (he : (am_tab μ)[k]? = some (pc, .ixor, len, x, y, c, z)) (h : am_ins (am_KM l G) d μ k lv st σ Q (.ixor) x y c z) : am_KM l G d μ k lv st σ Q := by
  obtain ⟨hdg, hok, hpc⟩ := am_ok2 he
  obtain ⟨rfl, hnx⟩ := am_nx_e hok
  obtain ⟨a, b, st', rfl, h⟩ := am_p2_e h
  intro p e R s m args below meth c0 H locs cells slots ls A Z sc hX hl hR
  obtain ⟨hx, hb, hml, hown, hts, hroom, hK, hP, hD, hS, hA, hsc⟩ := id hX
  rw [hpc]
  have w := h p e R s m args below meth c0 H locs cells slots ls A Z sc hX hl hR
  rw [hnx] at w
  refine lv_ixor hx hb hdg ?_
  rw [List.map_cons, show am_vv G (.inl (am_xor a b)) = Value.int (Int32.ofInt (am_xor a b)) from rfl, am_xor, Int32.ofInt_toInt] at w
  exact w
theorem am_s_ishl {l : Launch} {G : am_G} {d μ k : Nat} {lv st : List am_V} {σ : am_S} {Q : am_Q} {pc len x y : Nat} {c : Int} {z : List Nat} (he : (am_tab μ)[k]? = some (pc, .ishl, len, x, y, c, z)) (h : am_ins (am_KM l G) d μ k lv st σ Q (.ishl) x y c z) : am_KM l G d μ k lv st σ Q := by
  obtain ⟨hdg, hok, hpc⟩ := am_ok2 he
  obtain ⟨rfl, hnx⟩ := am_nx_e hok
  obtain ⟨a, b, st', rfl, h⟩ := am_p2_e h
  intro p e R s m args below meth c0 H locs cells slots ls A Z sc hX hl hR
  obtain ⟨hx, hb, hml, hown, hts, hroom, hK, hP, hD, hS, hA, hsc⟩ := id hX
  rw [hpc]
  have w := h p e R s m args below meth c0 H locs cells slots ls A Z sc hX hl hR
  rw [hnx] at w
  refine lv_ishl hx hb hdg ?_
  rw [List.map_cons, show am_vv G (.inl (am_shl a b)) = Value.int (Int32.ofInt (am_shl a b)) from rfl, am_shl, Int32.ofInt_toInt] at w
  exact w
theorem am_s_ishr {l : Launch} {G : am_G} {d μ k : Nat} {lv st : List am_V} {σ : am_S} {Q : am_Q} {pc len x y : Nat} {c : Int} {z : List Nat} (he : (am_tab μ)[k]? = some (pc, .ishr, len, x, y, c, z)) (h : am_ins (am_KM l G) d μ k lv st σ Q (.ishr) x y c z) : am_KM l G d μ k lv st σ Q := by
  obtain ⟨hdg, hok, hpc⟩ := am_ok2 he
  obtain ⟨rfl, hnx⟩ := am_nx_e hok
  obtain ⟨a, b, st', rfl, h⟩ := am_p2_e h
  intro p e R s m args below meth c0 H locs cells slots ls A Z sc hX hl hR
  obtain ⟨hx, hb, hml, hown, hts, hroom, hK, hP, hD, hS, hA, hsc⟩ := id hX
  rw [hpc]
  have w := h p e R s m args below meth c0 H locs cells slots ls A Z sc hX hl hR
  rw [hnx] at w
  refine lv_ishr hx hb hdg ?_
  rw [List.map_cons, show am_vv G (.inl (am_shr a b)) = Value.int (Int32.ofInt (am_shr a b)) from rfl, am_shr, Int32.ofInt_toInt] at w
  exact w
theorem am_s_iushr {l : Launch} {G : am_G} {d μ k : Nat} {lv st : List am_V} {σ : am_S} {Q : am_Q} {pc len x y : Nat} {c : Int} {z : List Nat} (he : (am_tab μ)[k]? = some (pc, .iushr, len, x, y, c, z)) (h : am_ins (am_KM l G) d μ k lv st σ Q (.iushr) x y c z) : am_KM l G d μ k lv st σ Q := by
  obtain ⟨hdg, hok, hpc⟩ := am_ok2 he
  obtain ⟨rfl, hnx⟩ := am_nx_e hok
  obtain ⟨a, b, st', rfl, h⟩ := am_p2_e h
  intro p e R s m args below meth c0 H locs cells slots ls A Z sc hX hl hR
  obtain ⟨hx, hb, hml, hown, hts, hroom, hK, hP, hD, hS, hA, hsc⟩ := id hX
  rw [hpc]
  have w := h p e R s m args below meth c0 H locs cells slots ls A Z sc hX hl hR
  rw [hnx] at w
  refine lv_iushr hx hb hdg rfl ?_
  rw [List.map_cons, show am_vv G (.inl (am_ushr a b)) = Value.int (Int32.ofInt (am_ushr a b)) from rfl, am_ushr, Int32.ofInt_toInt] at w
  exact w
theorem am_tdiv {a b : Int} (ha : am_rng a) (hb : am_rng b) : Int32.ofInt (a.tdiv b) = Int32.ofInt a / Int32.ofInt b := by
  apply Int32.toInt_inj.mp
  rw [Int32.toInt_div, am_toInt ha, am_toInt hb, Int32.toInt_ofInt]
theorem am_s_idiv {l : Launch} {G : am_G} {d μ k : Nat} {lv st : List am_V} {σ : am_S} {Q : am_Q} {pc len x y : Nat} {c : Int} {z : List Nat} (he : (am_tab μ)[k]? = some (pc, .idiv, len, x, y, c, z)) (h : am_ins (am_KM l G) d μ k lv st σ Q (.idiv) x y c z) : am_KM l G d μ k lv st σ Q := by
  obtain ⟨hdg, hok, hpc⟩ := am_ok2 he
  obtain ⟨rfl, hnx⟩ := am_nx_e hok
  obtain ⟨a, b, st', rfl, ra, rb, h0, h⟩ := am_p2_e h
  intro p e R s m args below meth c0 H locs cells slots ls A Z sc hX hl hR
  obtain ⟨hx, hb, hml, hown, hts, hroom, hK, hP, hD, hS, hA, hsc⟩ := id hX
  rw [hpc]
  have w := h p e R s m args below meth c0 H locs cells slots ls A Z sc hX hl hR
  rw [hnx] at w
  refine lv_idiv hx hb hdg (fun q => h0 ((am_eq rb am_rng0).mp q)) ?_
  rw [← am_tdiv ra rb]
  exact w
theorem am_tmod {a b : Int} (ha : am_rng a) (hb : am_rng b) : Int32.ofInt (a.tmod b) = Int32.ofInt a - Int32.ofInt a / Int32.ofInt b * Int32.ofInt b := by
  rw [Int.tmod_def, Int32.ofInt_sub, Int.mul_comm, Int32.ofInt_mul, am_tdiv ha hb]
theorem am_s_irem {l : Launch} {G : am_G} {d μ k : Nat} {lv st : List am_V} {σ : am_S} {Q : am_Q} {pc len x y : Nat} {c : Int} {z : List Nat} (he : (am_tab μ)[k]? = some (pc, .irem, len, x, y, c, z)) (h : am_ins (am_KM l G) d μ k lv st σ Q (.irem) x y c z) : am_KM l G d μ k lv st σ Q := by
  obtain ⟨hdg, hok, hpc⟩ := am_ok2 he
  obtain ⟨rfl, hnx⟩ := am_nx_e hok
  obtain ⟨a, b, st', rfl, ra, rb, h0, h⟩ := am_p2_e h
  intro p e R s m args below meth c0 H locs cells slots ls A Z sc hX hl hR
  obtain ⟨hx, hb, hml, hown, hts, hroom, hK, hP, hD, hS, hA, hsc⟩ := id hX
  rw [hpc]
  have w := h p e R s m args below meth c0 H locs cells slots ls A Z sc hX hl hR
  rw [hnx] at w
  refine lv_irem hx hb hdg (fun q => h0 ((am_eq rb am_rng0).mp q)) ?_
  rw [← am_tmod ra rb]
  exact w
theorem am_s_ineg {l : Launch} {G : am_G} {d μ k : Nat} {lv st : List am_V} {σ : am_S} {Q : am_Q} {pc len x y : Nat} {c : Int} {z : List Nat} (he : (am_tab μ)[k]? = some (pc, .ineg, len, x, y, c, z)) (h : am_ins (am_KM l G) d μ k lv st σ Q (.ineg) x y c z) : am_KM l G d μ k lv st σ Q := by
  obtain ⟨hdg, hok, hpc⟩ := am_ok2 he
  obtain ⟨rfl, hnx⟩ := am_nx_e hok
  obtain ⟨a, st', rfl, h⟩ := am_p1_e h
  intro p e R s m args below meth c0 H locs cells slots ls A Z sc hX hl hR
  obtain ⟨hx, hb, hml, hown, hts, hroom, hK, hP, hD, hS, hA, hsc⟩ := id hX
  rw [hpc]
  have w := h p e R s m args below meth c0 H locs cells slots ls A Z sc hX hl hR
  rw [hnx] at w
  refine lv_ineg hx hb hdg ?_
  rw [← Int32.ofInt_neg]
  exact w
theorem am_s_goto {l : Launch} {G : am_G} {d μ k : Nat} {lv st : List am_V} {σ : am_S} {Q : am_Q} {pc len x y : Nat} {c : Int} {z : List Nat} {off : Int} (he : (am_tab μ)[k]? = some (pc, .goto off, len, x, y, c, z)) (h : am_ins (am_KM l G) d μ k lv st σ Q (.goto off) x y c z) : am_KM l G d μ k lv st σ Q := by
  obtain ⟨hdg, hok, hpc⟩ := am_ok2 he
  obtain ⟨hlen, ht⟩ := Bool.and_eq_true_iff.mp hok
  have hlen := Nat.eq_of_beq_eq_true hlen
  subst hlen
  intro p e R s m args below meth c0 H locs cells slots ls A Z sc hX hl hR
  obtain ⟨hx, hb, hml, hown, hts, hroom, hK, hP, hD, hS, hA, hsc⟩ := id hX
  rw [hpc]
  exact lv_goto hx hb hdg (of_decide_eq_true ht) (h p e R s m args below meth c0 H locs cells slots ls A Z sc hX hl hR)
theorem am_s_if_icmp {l : Launch} {G : am_G} {d μ k : Nat} {lv st : List am_V} {σ : am_S} {Q : am_Q} {pc len x y : Nat} {c : Int} {z : List Nat} {r : ClassFile.Cond} {off : Int} (he : (am_tab μ)[k]? = some (pc, .if_icmp r off, len, x, y, c, z)) (h : am_ins (am_KM l G) d μ k lv st σ Q (.if_icmp r off) x y c z) : am_KM l G d μ k lv st σ Q := by
  obtain ⟨hdg, hok, hpc⟩ := am_ok2 he
  obtain ⟨hok, ht⟩ := Bool.and_eq_true_iff.mp hok
  have ht := of_decide_eq_true ht
  obtain ⟨rfl, hnx⟩ := am_nx_e hok
  obtain ⟨a, b, st', rfl, h⟩ := am_p2_e h
  intro p e R s m args below meth c0 H locs cells slots ls A Z sc hX hl hR
  obtain ⟨hx, hb, hml, hown, hts, hroom, hK, hP, hD, hS, hA, hsc⟩ := id hX
  rw [hpc]
  cases r with
  | eq =>
    obtain ⟨ra, rb, hT, hF⟩ := h
    refine lv_icmp_eq hx hb hdg ht (fun q => hT ((am_eq ra rb).mp q) p e R s m args below meth c0 H locs cells slots ls A Z sc hX hl hR) (fun q => ?_)
    have w := hF (fun z => q ((am_eq ra rb).mpr z)) p e R s m args below meth c0 H locs cells slots ls A Z sc hX hl hR
    rw [hnx] at w
    exact w
  | ne =>
    obtain ⟨ra, rb, hT, hF⟩ := h
    refine lv_icmp_ne hx hb hdg ht (fun q => hT (fun z => q ((am_eq ra rb).mpr z)) p e R s m args below meth c0 H locs cells slots ls A Z sc hX hl hR) (fun q => ?_)
    have w := hF ((am_eq ra rb).mp q) p e R s m args below meth c0 H locs cells slots ls A Z sc hX hl hR
    rw [hnx] at w
    exact w
  | lt =>
    obtain ⟨ra, rb, hT, hF⟩ := h
    refine lv_icmp_lt hx hb hdg ht (fun q => hT ((am_lt ra rb).mp q) p e R s m args below meth c0 H locs cells slots ls A Z sc hX hl hR) (fun q => ?_)
    have w := hF (Int.not_lt.mp fun z => q ((am_lt ra rb).mpr z)) p e R s m args below meth c0 H locs cells slots ls A Z sc hX hl hR
    rw [hnx] at w
    exact w
  | ge =>
    obtain ⟨ra, rb, hT, hF⟩ := h
    refine lv_icmp_ge hx hb hdg ht (fun q => hT ((am_le rb ra).mp q) p e R s m args below meth c0 H locs cells slots ls A Z sc hX hl hR) (fun q => ?_)
    have w := hF (Int.not_le.mp fun z => q ((am_le rb ra).mpr z)) p e R s m args below meth c0 H locs cells slots ls A Z sc hX hl hR
    rw [hnx] at w
    exact w
  | gt =>
    obtain ⟨ra, rb, hT, hF⟩ := h
    refine lv_icmp_gt hx hb hdg ht (fun q => hT ((am_lt rb ra).mp q) p e R s m args below meth c0 H locs cells slots ls A Z sc hX hl hR) (fun q => ?_)
    have w := hF (Int.not_lt.mp fun z => q ((am_lt rb ra).mpr z)) p e R s m args below meth c0 H locs cells slots ls A Z sc hX hl hR
    rw [hnx] at w
    exact w
  | le =>
    obtain ⟨ra, rb, hT, hF⟩ := h
    refine lv_icmp_le hx hb hdg ht (fun q => hT ((am_le ra rb).mp q) p e R s m args below meth c0 H locs cells slots ls A Z sc hX hl hR) (fun q => ?_)
    have w := hF (Int.not_le.mp fun z => q ((am_le ra rb).mpr z)) p e R s m args below meth c0 H locs cells slots ls A Z sc hX hl hR
    rw [hnx] at w
    exact w
theorem am_s_ifCond {l : Launch} {G : am_G} {d μ k : Nat} {lv st : List am_V} {σ : am_S} {Q : am_Q} {pc len x y : Nat} {c : Int} {z : List Nat} {r : ClassFile.Cond} {off : Int} (he : (am_tab μ)[k]? = some (pc, .ifCond r off, len, x, y, c, z)) (h : am_ins (am_KM l G) d μ k lv st σ Q (.ifCond r off) x y c z) : am_KM l G d μ k lv st σ Q := by
  obtain ⟨hdg, hok, hpc⟩ := am_ok2 he
  obtain ⟨hok, ht⟩ := Bool.and_eq_true_iff.mp hok
  have ht := of_decide_eq_true ht
  obtain ⟨rfl, hnx⟩ := am_nx_e hok
  obtain ⟨a, st', rfl, h⟩ := am_p1_e h
  have rb := am_rng0
  intro p e R s m args below meth c0 H locs cells slots ls A Z sc hX hl hR
  obtain ⟨hx, hb, hml, hown, hts, hroom, hK, hP, hD, hS, hA, hsc⟩ := id hX
  rw [hpc]
  cases r with
  | eq =>
    obtain ⟨ra, -, hT, hF⟩ := h
    refine lv_if_eq hx hb hdg ht (fun q => hT ((am_eq ra rb).mp q) p e R s m args below meth c0 H locs cells slots ls A Z sc hX hl hR) (fun q => ?_)
    have w := hF (fun z => q ((am_eq ra rb).mpr z)) p e R s m args below meth c0 H locs cells slots ls A Z sc hX hl hR
    rw [hnx] at w
    exact w
  | ne =>
    obtain ⟨ra, -, hT, hF⟩ := h
    refine lv_if_ne hx hb hdg ht (fun q => hT (fun z => q ((am_eq ra rb).mpr z)) p e R s m args below meth c0 H locs cells slots ls A Z sc hX hl hR) (fun q => ?_)
    have w := hF ((am_eq ra rb).mp q) p e R s m args below meth c0 H locs cells slots ls A Z sc hX hl hR
    rw [hnx] at w
    exact w
  | lt =>
    obtain ⟨ra, -, hT, hF⟩ := h
    refine lv_if_lt hx hb hdg ht (fun q => hT ((am_lt ra rb).mp q) p e R s m args below meth c0 H locs cells slots ls A Z sc hX hl hR) (fun q => ?_)
    have w := hF (Int.not_lt.mp fun z => q ((am_lt ra rb).mpr z)) p e R s m args below meth c0 H locs cells slots ls A Z sc hX hl hR
    rw [hnx] at w
    exact w
  | ge =>
    obtain ⟨ra, -, hT, hF⟩ := h
    refine lv_if_ge hx hb hdg ht (fun q => hT ((am_le rb ra).mp q) p e R s m args below meth c0 H locs cells slots ls A Z sc hX hl hR) (fun q => ?_)
    have w := hF (Int.not_le.mp fun z => q ((am_le rb ra).mpr z)) p e R s m args below meth c0 H locs cells slots ls A Z sc hX hl hR
    rw [hnx] at w
    exact w
  | gt =>
    obtain ⟨ra, -, hT, hF⟩ := h
    refine lv_if_gt hx hb hdg ht (fun q => hT ((am_lt rb ra).mp q) p e R s m args below meth c0 H locs cells slots ls A Z sc hX hl hR) (fun q => ?_)
    have w := hF (Int.not_lt.mp fun z => q ((am_lt rb ra).mpr z)) p e R s m args below meth c0 H locs cells slots ls A Z sc hX hl hR
    rw [hnx] at w
    exact w
  | le =>
    obtain ⟨ra, -, hT, hF⟩ := h
    refine lv_if_le hx hb hdg ht (fun q => hT ((am_le ra rb).mp q) p e R s m args below meth c0 H locs cells slots ls A Z sc hX hl hR) (fun q => ?_)
    have w := hF (Int.not_le.mp fun z => q ((am_le ra rb).mpr z)) p e R s m args below meth c0 H locs cells slots ls A Z sc hX hl hR
    rw [hnx] at w
    exact w
theorem am_sw_at {x : Int} {f : Nat → Prop} : ∀ (z : List Nat) (i : Int) (j t : Nat), am_sw x f i z → z[j]? = some t → x = i + (j : Int) → f t
  | [], _, _, _, _, h, _ => by cases h
  | a :: z, i, 0, t, h, h2, h3 => by
    obtain rfl := Option.some.inj h2
    exact h.1 (by rw [h3]; simp)
  | a :: z, i, j + 1, t, h, h2, h3 => am_sw_at z (i + 1) j t h.2 (by simpa using h2) (by rw [h3]; omega)
theorem am_s_tableswitch {l : Launch} {G : am_G} {d μ k : Nat} {lv st : List am_V} {σ : am_S} {Q : am_Q} {pc len x y : Nat} {c : Int} {z : List Nat} {dflt lo hi : Int} {offs : Array Int} (he : (am_tab μ)[k]? = some (pc, .tableswitch dflt lo hi offs, len, x, y, c, z)) (h : am_ins (am_KM l G) d μ k lv st σ Q (.tableswitch dflt lo hi offs) x y c z) : am_KM l G d μ k lv st σ Q := by
  obtain ⟨hdg, hok, hpc⟩ := am_ok2 he
  obtain ⟨hok, h3⟩ := Bool.and_eq_true_iff.mp hok
  obtain ⟨h1, h2⟩ := Bool.and_eq_true_iff.mp hok
  have h1 := of_decide_eq_true h1
  have h2 := of_decide_eq_true h2
  have h3 := of_decide_eq_true h3
  obtain ⟨a, st', rfl, ra, hs, hd⟩ := am_p1_e h
  intro p e R s m args below meth c0 H locs cells slots ls A Z sc hX hl hR
  obtain ⟨hx, hb, hml, hown, hts, hroom, hK, hP, hD, hS, hA, hsc⟩ := id hX
  rw [hpc]
  by_cases hin : a < lo ∨ lo + (z.length : Int) ≤ a
  · exact lv_tableOut hx hb hdg (by rw [am_toInt ra]; omega) h1 (hd hin p e R s m args below meth c0 H locs cells slots ls A Z sc hX hl hR)
  · have hj : (a - lo).toNat < z.length := by omega
    have hzj : z[(a - lo).toNat]? = some z[(a - lo).toNat] := List.getElem?_eq_getElem hj
    have ho : (offs.toList.map (fun o => (pc : Int) + o))[(a - lo).toNat]? = some (am_pc μ z[(a - lo).toNat] : Int) := by rw [h3, List.getElem?_map, hzj]; rfl
    rw [List.getElem?_map] at ho
    cases hoo : offs.toList[(a - lo).toNat]? with
    | none => rw [hoo] at ho; cases ho
    | some off =>
      rw [hoo] at ho
      have ho2 : (pc : Int) + off = (am_pc μ z[(a - lo).toNat] : Int) := Option.some.inj ho
      have hk := am_sw_at z lo _ _ hs hzj (by omega)
      exact lv_tableIn hx hb hdg (by rw [am_toInt ra]; omega) (by rw [am_toInt ra]; omega) (by rw [am_toInt ra, ← Array.getElem?_toList]; exact hoo) ho2 (hk p e R s m args below meth c0 H locs cells slots ls A Z sc hX hl hR)
theorem am_s_getfield {l : Launch} {G : am_G} {d μ k : Nat} {lv st : List am_V} {σ : am_S} {Q : am_Q} {pc len x y : Nat} {c : Int} {z : List Nat} {i : Nat} (he : (am_tab μ)[k]? = some (pc, .getfield i, len, x, y, c, z)) (h : am_ins (am_KM l G) d μ k lv st σ Q (.getfield i) x y c z) : am_KM l G d μ k lv st σ Q := by
  obtain ⟨hdg, hok, hpc⟩ := am_ok2 he
  obtain ⟨hok, hy⟩ := Bool.and_eq_true_iff.mp hok
  obtain ⟨hok, hw⟩ := Bool.and_eq_true_iff.mp hok
  have hy := of_decide_eq_true hy
  obtain ⟨rfl, hnx⟩ := am_nx_e hok
  obtain ⟨r, st', rfl, h⟩ := am_r1_e h
  obtain ⟨refs, hL, h⟩ := am_fld_e h
  obtain ⟨hc, hrl⟩ := am_lay_cls hL
  obtain ⟨hin, -, -⟩ := am_cls_ok hc
  have hr := am_lay_lt hL (show (0 : Nat) ≠ 4 by decide)
  intro p e R s m args below meth c0 H locs cells slots ls A Z sc hX hl hR
  obtain ⟨hx, hb, hml, hown, hts, hroom, hK, hP, hD, hS, hA, hsc⟩ := id hX
  rw [hpc]
  have hat := am_ws_at G σ hL hr
  rcases h with ⟨t, ht, h⟩ | ⟨ht, h⟩
  · have w := h p e R s m args below meth c0 H locs cells slots ls A Z sc hX hl hR
    rw [hnx] at w
    exact va_get (v := .ref (G.2.1 t)) hx hb hts hin hown hK hP r hat hc y hy (hts _ (am_wat_in hw)) (fun _ q => q) (by show (am_fs G (σ r) refs)[y]? = _; unfold am_fs; rw [List.getElem?_mapIdx, ht]; rfl) hdg w
  · have w := h p e R s m args below meth c0 H locs cells slots ls A Z sc hX hl hR
    rw [hnx] at w
    exact va_get (v := .int (Int32.ofInt (σ r y))) hx hb hts hin hown hK hP r hat hc y hy (hts _ (am_wat_in hw)) (fun _ q => q) (by show (am_fs G (σ r) refs)[y]? = _; unfold am_fs; rw [List.getElem?_mapIdx, ht]; rfl) hdg w
theorem am_putz {z : List Nat} {v : Int} {P : Prop} {desc : String} (h : match (generalizing := false) z with
      | [_, 0] => P
      | _ => (v = 0 ∨ v = 1) ∧ P) (hz : (match (generalizing := false) z with
      | [_, 0] => decide (parseFieldDescriptor desc = some .int)
      | _ => decide (parseFieldDescriptor desc = some .boolean)) = true) : P ∧ ∃ ty, parseFieldDescriptor desc = some ty ∧ narrow ty (.int (Int32.ofInt v)) = .int (Int32.ofInt v) ∧ fits ty (.int (Int32.ofInt v)) = true := by
  split at h
  · exact ⟨h, .int, of_decide_eq_true hz, rfl, rfl⟩
  · rename_i hne
    refine ⟨h.2, .boolean, ?_, am_bool h.1, by rcases h.1 with rfl | rfl <;> rfl⟩
    split at hz
    · exact absurd rfl (hne _)
    · exact of_decide_eq_true hz
theorem am_s_putfield {l : Launch} {G : am_G} {d μ k : Nat} {lv st : List am_V} {σ : am_S} {Q : am_Q} {pc len x y : Nat} {c : Int} {z : List Nat} {i : Nat} (he : (am_tab μ)[k]? = some (pc, .putfield i, len, x, y, c, z)) (h : am_ins (am_KM l G) d μ k lv st σ Q (.putfield i) x y c z) : am_KM l G d μ k lv st σ Q := by
  obtain ⟨hdg, hok, hpc⟩ := am_ok2 he
  obtain ⟨hok, hz⟩ := Bool.and_eq_true_iff.mp hok
  obtain ⟨hok, hf⟩ := Bool.and_eq_true_iff.mp hok
  obtain ⟨hok, hy⟩ := Bool.and_eq_true_iff.mp hok
  obtain ⟨hok, hw⟩ := Bool.and_eq_true_iff.mp hok
  have hy := of_decide_eq_true hy
  have hf : ((am_T x).2.1 y).2.2.2 = false := by simpa using hf
  obtain ⟨rfl, hnx⟩ := am_nx_e hok
  obtain ⟨v, r, st', rfl, h⟩ := am_pr_e h
  obtain ⟨refs, hL, h⟩ := am_fld_e h
  obtain ⟨hc, hrl⟩ := am_lay_cls hL
  obtain ⟨hin, ⟨ty0, hty⟩, hnm⟩ := am_cls_ok hc
  have hr := am_lay_lt hL (show (0 : Nat) ≠ 4 by decide)
  rcases h with ⟨t, ht, h⟩ | ⟨ht, h⟩
  · exact h.elim
  obtain ⟨h, ty, hd, hn, hfit⟩ := am_putz h hz
  intro p e R s m args below meth c0 H locs cells slots ls A Z sc hX hl hR
  obtain ⟨hx, hb, hml, hown, hts, hroom, hK, hP, hD, hS, hA, hsc⟩ := id hX
  rw [hpc]
  have hat := am_ws_at G σ hL hr
  refine va_put (v := .int (Int32.ofInt v)) (ty := ty) hx hb hts hin ty0 hty hnm hown hK hP hD hS r hat hc y hy (hts _ (am_wat_in hw)) (fun _ q => q) hf hd hn hfit (by show y < (am_fs G (σ r) refs).length; unfold am_fs; rw [List.length_mapIdx, hrl]; exact hy) hdg (fun H1 locs1 hP1 _ hS1 => ?_)
  have w := h p e R s m args below meth c0 H1 locs1 cells slots ls A Z sc (am_X_set hX hL hr (by show Sum.inr _ = Sum.inr _; rw [am_fs_set ht]) hP1 hS1) hl hR
  rw [hnx] at w
  exact w
theorem am_iald_e {r : Nat} {v : Int} {μ : Nat} {P : Nat → Prop} {B : Prop} (h : match am_lay[r]? with
      | some (1, n, _) => P n
      | some (4, _, _) => am_g (Nat.beq μ am_law) B
      | _ => False) : (∃ n refs, am_lay[r]? = some (1, n, refs) ∧ P n) ∨ (∃ n refs, am_lay[r]? = some (4, n, refs) ∧ μ = am_law ∧ B) := by
  split at h
  · exact Or.inl ⟨_, _, by assumption, h⟩
  · obtain ⟨h1, h2⟩ := am_g_e h
    exact Or.inr ⟨_, _, by assumption, Nat.eq_of_beq_eq_true h1, h2⟩
  · exact h.elim
theorem am_k1_e {r : Nat} {P : Nat → Prop} (h : match am_lay[r]? with
      | some (1, n, _) => P n
      | _ => False) : ∃ n refs, am_lay[r]? = some (1, n, refs) ∧ P n := by
  split at h
  · exact ⟨_, _, by assumption, h⟩
  · exact h.elim
theorem am_k2_e {r : Nat} {P : Nat → Prop} (h : match am_lay[r]? with
      | some (2, n, _) => P n
      | _ => False) : ∃ n refs, am_lay[r]? = some (2, n, refs) ∧ P n := by
  split at h
  · exact ⟨_, _, by assumption, h⟩
  · exact h.elim
theorem am_k3_e {r : Nat} {P : Nat → List (Option Nat) → Prop} (h : match am_lay[r]? with
      | some (3, n, refs) => P n refs
      | _ => False) : ∃ n refs, am_lay[r]? = some (3, n, refs) ∧ P n refs := by
  split at h
  · exact ⟨_, _, by assumption, h⟩
  · exact h.elim
theorem am_lay4 {r n : Nat} {refs : List (Option Nat)} (h : am_lay[r]? = some (4, n, refs)) : r = am_NC := by
  have h1 : ((List.range am_NC).all fun i => match am_lay[i]? with | some (4, _, _) => false | _ => true) = true := by decide +kernel
  have h2 : r < am_lay.length := (List.getElem?_eq_some_iff.mp h).1
  have h3 : am_lay.length = am_NC + 1 := rfl
  rcases Nat.lt_or_ge r am_NC with g | g
  · have h4 := List.all_eq_true.mp h1 r (List.mem_range.mpr g)
    rw [h] at h4
    cases h4
  · omega
theorem am_s_iaload {l : Launch} {G : am_G} {d μ k : Nat} {lv st : List am_V} {σ : am_S} {Q : am_Q} {pc len x y : Nat} {c : Int} {z : List Nat} (he : (am_tab μ)[k]? = some (pc, .iaload, len, x, y, c, z)) (h : am_ins (am_KM l G) d μ k lv st σ Q (.iaload) x y c z) : am_KM l G d μ k lv st σ Q := by
  obtain ⟨hdg, hok, hpc⟩ := am_ok2 he
  obtain ⟨rfl, hnx⟩ := am_nx_e hok
  obtain ⟨v, r, st', rfl, h⟩ := am_pr_e h
  rcases am_iald_e (v := v) (P := fun n => (0 ≤ v ∧ v < n) ∧ am_KM l G d μ (k + 1) lv (.inl (σ r v) :: st') σ Q) (B := (0 ≤ v ∧ v < σ am_NC (-1)) ∧ am_KM l G d μ (k + 1) lv (.inl (σ am_NC v) :: st') σ Q) h with ⟨n, refs, hL, hin, h⟩ | ⟨n, refs, hL, hμ, hin, hk⟩
  · have hr := am_lay_lt hL (show (1 : Nat) ≠ 4 by decide)
    have hn := am_lens hL
    intro p e R s m args below meth c0 H locs cells slots ls A Z sc hX hl hR
    obtain ⟨hx, hb, hml, hown, hts, hroom, hK, hP, hD, hS, hA, hsc⟩ := id hX
    rw [hpc]
    have w := h p e R s m args below meth c0 H locs cells slots ls A Z sc hX hl hR
    rw [hnx] at w
    refine va_iald hx hb hK hP r 0 (am_ws_at G σ hL hr) rfl (am_vin hn hin) hdg ?_
    rw [am_clamp hn hin]
    show W _ _ _ _ _ _ _ _ _ _ _ _ _ _ _ (F0 m (pc + 1) ls (.int (Int32.ofInt (σ r (v.toNat : Int))) :: st'.map (am_vv G)))
    rw [Int.toNat_of_nonneg hin.1]
    exact w
  · have hrr := am_lay4 hL
    subst hrr
    intro p e R s m args below meth c0 H locs cells slots ls A Z sc hX hl hR
    obtain ⟨hx, hb, hml, hown, hts, hroom, hK, hP, hD, hS, hA, hsc⟩ := id hX
    rw [hpc]
    obtain ⟨L, xs, h1, h2, h3, h4, h5, h6⟩ := hsc.2 hμ
    have hin2 : 0 ≤ v ∧ v < (L : Int) := by rw [← h4]; exact hin
    have w := hk p e R s m args below meth c0 H locs cells slots ls A Z sc hX hl hR
    rw [hnx] at w
    refine va_sld hx hb h1 h2 h3 hS (am_vin h5 hin2) hdg ?_
    rw [am_clamp h5 hin2, h6 _ (by omega), Int.toNat_of_nonneg hin2.1]
    exact w
theorem am_s_baload {l : Launch} {G : am_G} {d μ k : Nat} {lv st : List am_V} {σ : am_S} {Q : am_Q} {pc len x y : Nat} {c : Int} {z : List Nat} (he : (am_tab μ)[k]? = some (pc, .baload, len, x, y, c, z)) (h : am_ins (am_KM l G) d μ k lv st σ Q (.baload) x y c z) : am_KM l G d μ k lv st σ Q := by
  obtain ⟨hdg, hok, hpc⟩ := am_ok2 he
  obtain ⟨rfl, hnx⟩ := am_nx_e hok
  obtain ⟨v, r, st', rfl, h⟩ := am_pr_e h
  obtain ⟨n, refs, hL, hin, h⟩ := am_k2_e (P := fun n => (0 ≤ v ∧ v < n) ∧ am_KM l G d μ (k + 1) lv (.inl (σ r v) :: st') σ Q) h
  have hr := am_lay_lt hL (show (2 : Nat) ≠ 4 by decide)
  have hn := am_lens hL
  intro p e R s m args below meth c0 H locs cells slots ls A Z sc hX hl hR
  obtain ⟨hx, hb, hml, hown, hts, hroom, hK, hP, hD, hS, hA, hsc⟩ := id hX
  rw [hpc]
  have w := h p e R s m args below meth c0 H locs cells slots ls A Z sc hX hl hR
  rw [hnx] at w
  refine va_zald hx hb hK hP r 1 (am_ws_at G σ hL hr) rfl (am_vin hn hin) hdg ?_
  rw [am_clamp hn hin]
  show W _ _ _ _ _ _ _ _ _ _ _ _ _ _ _ (F0 m (pc + 1) ls (.int (Int32.ofInt (σ r (v.toNat : Int))) :: st'.map (am_vv G)))
  rw [Int.toNat_of_nonneg hin.1]
  exact w
theorem am_s_aaload {l : Launch} {G : am_G} {d μ k : Nat} {lv st : List am_V} {σ : am_S} {Q : am_Q} {pc len x y : Nat} {c : Int} {z : List Nat} (he : (am_tab μ)[k]? = some (pc, .aaload, len, x, y, c, z)) (h : am_ins (am_KM l G) d μ k lv st σ Q (.aaload) x y c z) : am_KM l G d μ k lv st σ Q := by
  obtain ⟨hdg, hok, hpc⟩ := am_ok2 he
  obtain ⟨rfl, hnx⟩ := am_nx_e hok
  obtain ⟨v, r, st', rfl, h⟩ := am_pr_e h
  obtain ⟨n, refs, hL, hin, h⟩ := am_k3_e (P := fun n refs => (0 ≤ v ∧ v < n) ∧ (match refs[v.toNat]? with
        | some (some t) => am_KM l G d μ (k + 1) lv (.inr t :: st') σ Q
        | _ => False)) h
  have hr := am_lay_lt hL (show (3 : Nat) ≠ 4 by decide)
  have hn := am_lens hL
  split at h
  · rename_i t ht
    intro p e R s m args below meth c0 H locs cells slots ls A Z sc hX hl hR
    obtain ⟨hx, hb, hml, hown, hts, hroom, hK, hP, hD, hS, hA, hsc⟩ := id hX
    rw [hpc]
    have w := h p e R s m args below meth c0 H locs cells slots ls A Z sc hX hl hR
    rw [hnx] at w
    refine va_aldq hx hb hK hP r 2 (am_ws_at G σ hL hr) rfl (am_vin hn hin) hdg ?_
    rw [am_clamp hn hin]
    show W _ _ _ _ _ _ _ _ _ _ _ _ _ _ _ (F0 m (pc + 1) ls (va_rf (((refs[v.toNat]?).getD none).map G.2.1) :: st'.map (am_vv G)))
    rw [ht]
    exact w
  · exact h.elim
theorem am_s_iastore {l : Launch} {G : am_G} {d μ k : Nat} {lv st : List am_V} {σ : am_S} {Q : am_Q} {pc len x y : Nat} {c : Int} {z : List Nat} (he : (am_tab μ)[k]? = some (pc, .iastore, len, x, y, c, z)) (h : am_ins (am_KM l G) d μ k lv st σ Q (.iastore) x y c z) : am_KM l G d μ k lv st σ Q := by
  obtain ⟨hdg, hok, hpc⟩ := am_ok2 he
  obtain ⟨rfl, hnx⟩ := am_nx_e hok
  obtain ⟨v, j, r, st', rfl, h⟩ := am_pir_e h
  obtain ⟨n, refs, hL, hin, h⟩ := am_k1_e (P := fun n => (0 ≤ j ∧ j < n) ∧ am_KM l G d μ (k + 1) lv st' (am_us σ r j v) Q) h
  have hr := am_lay_lt hL (show (1 : Nat) ≠ 4 by decide)
  have hn := am_lens hL
  intro p e R s m args below meth c0 H locs cells slots ls A Z sc hX hl hR
  obtain ⟨hx, hb, hml, hown, hts, hroom, hK, hP, hD, hS, hA, hsc⟩ := id hX
  rw [hpc]
  refine va_iast hx hb hK hP hD hS r 0 (am_ws_at G σ hL hr) rfl (am_vin hn hin) hdg (fun H1 locs1 hP1 _ hS1 => ?_)
  have w := h p e R s m args below meth c0 H1 locs1 cells slots ls A Z sc (am_X_set hX hL hr (by show Sum.inl _ = Sum.inl _; rw [am_clamp hn hin, am_upd hin.1 rfl]) hP1 hS1) hl hR
  rw [hnx] at w
  exact w
theorem am_s_bastore {l : Launch} {G : am_G} {d μ k : Nat} {lv st : List am_V} {σ : am_S} {Q : am_Q} {pc len x y : Nat} {c : Int} {z : List Nat} (he : (am_tab μ)[k]? = some (pc, .bastore, len, x, y, c, z)) (h : am_ins (am_KM l G) d μ k lv st σ Q (.bastore) x y c z) : am_KM l G d μ k lv st σ Q := by
  obtain ⟨hdg, hok, hpc⟩ := am_ok2 he
  obtain ⟨rfl, hnx⟩ := am_nx_e hok
  obtain ⟨v, j, r, st', rfl, h⟩ := am_pir_e h
  obtain ⟨n, refs, hL, hin, h01, h⟩ := am_k2_e (P := fun n => (0 ≤ j ∧ j < n) ∧ (v = 0 ∨ v = 1) ∧ am_KM l G d μ (k + 1) lv st' (am_us σ r j v) Q) h
  have hr := am_lay_lt hL (show (2 : Nat) ≠ 4 by decide)
  have hn := am_lens hL
  intro p e R s m args below meth c0 H locs cells slots ls A Z sc hX hl hR
  obtain ⟨hx, hb, hml, hown, hts, hroom, hK, hP, hD, hS, hA, hsc⟩ := id hX
  rw [hpc]
  refine va_zast hx hb hK hP hD hS r 1 (am_ws_at G σ hL hr) rfl (am_vin hn hin) hdg (fun H1 locs1 hP1 _ hS1 => ?_)
  have w := h p e R s m args below meth c0 H1 locs1 cells slots ls A Z sc (am_X_set hX hL hr (by show Sum.inl _ = Sum.inl _; rw [am_clamp hn hin, am_upd hin.1 (show vp_nar .boolean (Int32.ofInt v) = Int32.ofInt v by rcases h01 with rfl | rfl <;> decide)]) hP1 hS1) hl hR
  rw [hnx] at w
  exact w
theorem am_s_arraylength {l : Launch} {G : am_G} {d μ k : Nat} {lv st : List am_V} {σ : am_S} {Q : am_Q} {pc len x y : Nat} {c : Int} {z : List Nat} (he : (am_tab μ)[k]? = some (pc, .arraylength, len, x, y, c, z)) (h : am_ins (am_KM l G) d μ k lv st σ Q (.arraylength) x y c z) : am_KM l G d μ k lv st σ Q := by
  obtain ⟨hdg, hok, hpc⟩ := am_ok2 he
  obtain ⟨rfl, hnx⟩ := am_nx_e hok
  obtain ⟨r, st', rfl, h⟩ := am_r1_e h
  obtain ⟨hb2, h⟩ := am_g_e h
  obtain ⟨hμ, hrr⟩ := Bool.and_eq_true_iff.mp hb2
  have hμ := Nat.eq_of_beq_eq_true hμ
  have hrr := Nat.eq_of_beq_eq_true hrr
  intro p e R s m args below meth c0 H locs cells slots ls A Z sc hX hl hR
  obtain ⟨hx, hb, hml, hown, hts, hroom, hK, hP, hD, hS, hA, hsc⟩ := id hX
  rw [hpc]
  obtain ⟨L, xs, h1, h2, h3, h4, h5, h6⟩ := hsc.2 hμ
  have w := h p e R s m args below meth c0 H locs cells slots ls A Z sc hX hl hR
  rw [hnx] at w
  have e1 : am_vv G (.inr r) = .ref (G.2.1 am_NC) := by rw [hrr]; rfl
  rw [List.map_cons, e1]
  refine va_slen hx hb h1 h2 h3 hS hdg ?_
  rw [← Int32.ofInt_eq_ofNat, ← h4]
  exact w
theorem am_s_dup {l : Launch} {G : am_G} {d μ k : Nat} {lv st : List am_V} {σ : am_S} {Q : am_Q} {pc len x y : Nat} {c : Int} {z : List Nat} (he : (am_tab μ)[k]? = some (pc, .dup, len, x, y, c, z)) (h : am_ins (am_KM l G) d μ k lv st σ Q (.dup) x y c z) : am_KM l G d μ k lv st σ Q := by
  obtain ⟨hdg, hok, hpc⟩ := am_ok2 he
  obtain ⟨rfl, hnx⟩ := am_nx_e hok
  rcases st with _ | ⟨v, st'⟩
  · exact False.elim h
  intro p e R s m args below meth c0 H locs cells slots ls A Z sc hX hl hR
  obtain ⟨hx, hb, hml, hown, hts, hroom, hK, hP, hD, hS, hA, hsc⟩ := id hX
  rw [hpc]
  have w := h p e R s m args below meth c0 H locs cells slots ls A Z sc hX hl hR
  rw [hnx] at w
  exact lv_dup hx hb hdg (am_vv_cat G v) w
theorem am_s_dup2 {l : Launch} {G : am_G} {d μ k : Nat} {lv st : List am_V} {σ : am_S} {Q : am_Q} {pc len x y : Nat} {c : Int} {z : List Nat} (he : (am_tab μ)[k]? = some (pc, .dup2, len, x, y, c, z)) (h : am_ins (am_KM l G) d μ k lv st σ Q (.dup2) x y c z) : am_KM l G d μ k lv st σ Q := by
  obtain ⟨hdg, hok, hpc⟩ := am_ok2 he
  obtain ⟨rfl, hnx⟩ := am_nx_e hok
  rcases st with _ | ⟨v, _ | ⟨v2, st'⟩⟩
  · exact False.elim h
  · exact False.elim h
  intro p e R s m args below meth c0 H locs cells slots ls A Z sc hX hl hR
  obtain ⟨hx, hb, hml, hown, hts, hroom, hK, hP, hD, hS, hA, hsc⟩ := id hX
  rw [hpc]
  have w := h p e R s m args below meth c0 H locs cells slots ls A Z sc hX hl hR
  rw [hnx] at w
  exact lv_dup2_11 hx hb hdg (am_vv_cat G v) (am_vv_cat G v2) w
theorem am_s_pop {l : Launch} {G : am_G} {d μ k : Nat} {lv st : List am_V} {σ : am_S} {Q : am_Q} {pc len x y : Nat} {c : Int} {z : List Nat} (he : (am_tab μ)[k]? = some (pc, .pop, len, x, y, c, z)) (h : am_ins (am_KM l G) d μ k lv st σ Q (.pop) x y c z) : am_KM l G d μ k lv st σ Q := by
  obtain ⟨hdg, hok, hpc⟩ := am_ok2 he
  obtain ⟨rfl, hnx⟩ := am_nx_e hok
  rcases st with _ | ⟨v, st'⟩
  · exact False.elim h
  intro p e R s m args below meth c0 H locs cells slots ls A Z sc hX hl hR
  obtain ⟨hx, hb, hml, hown, hts, hroom, hK, hP, hD, hS, hA, hsc⟩ := id hX
  rw [hpc]
  have w := h p e R s m args below meth c0 H locs cells slots ls A Z sc hX hl hR
  rw [hnx] at w
  exact lv_pop hx hb hdg (am_vv_cat G v) w
theorem am_s_ireturn {l : Launch} {G : am_G} {d μ k : Nat} {lv st : List am_V} {σ : am_S} {Q : am_Q} {pc len x y : Nat} {c : Int} {z : List Nat} (he : (am_tab μ)[k]? = some (pc, .ireturn, len, x, y, c, z)) (h : am_ins (am_KM l G) d μ k lv st σ Q (.ireturn) x y c z) : am_KM l G d μ k lv st σ Q := by
  obtain ⟨hdg, hok, hpc⟩ := am_ok2 he
  obtain ⟨hlen, ht⟩ := Bool.and_eq_true_iff.mp hok
  have hlen := Nat.eq_of_beq_eq_true hlen
  subst hlen
  rcases st with _ | ⟨v | v, _ | ⟨v2, st'⟩⟩
  · exact False.elim h
  · obtain ⟨hz, hq⟩ := h
    have hrt : am_rt μ (some v) := by
      unfold am_rz at hz
      show ∃ ty, _
      split at ht
      · rename_i e1
        exact ⟨.int, e1, rfl⟩
      · rename_i e1
        rw [e1] at hz
        exact ⟨.boolean, e1, am_bool hz⟩
      · cases ht
    intro p e R s m args below meth c0 H locs cells slots ls A Z sc hX hl hR
    obtain ⟨hx, hb, hml, hown, hts, hroom, hK, hP, hD, hS, hA, hsc⟩ := id hX
    rw [hpc]
    exact hR (some v) σ H locs pc ls hq hX hrt hdg
  · exact False.elim h
  · exact False.elim h
  · exact False.elim h
theorem am_s_return_ {l : Launch} {G : am_G} {d μ k : Nat} {lv st : List am_V} {σ : am_S} {Q : am_Q} {pc len x y : Nat} {c : Int} {z : List Nat} (he : (am_tab μ)[k]? = some (pc, .return_, len, x, y, c, z)) (h : am_ins (am_KM l G) d μ k lv st σ Q (.return_) x y c z) : am_KM l G d μ k lv st σ Q := by
  obtain ⟨hdg, hok, hpc⟩ := am_ok2 he
  obtain ⟨hlen, ht⟩ := Bool.and_eq_true_iff.mp hok
  have hlen := Nat.eq_of_beq_eq_true hlen
  subst hlen
  rcases st with _ | ⟨v, st'⟩
  · have hrt : am_rt μ none := by
      show (am_met μ).2.2.2.1 = none
      split at ht
      · assumption
      · cases ht
    intro p e R s m args below meth c0 H locs cells slots ls A Z sc hX hl hR
    obtain ⟨hx, hb, hml, hown, hts, hroom, hK, hP, hD, hS, hA, hsc⟩ := id hX
    rw [hpc]
    exact hR none σ H locs pc ls h hX hrt hdg
  · exact False.elim h
end
section
/-! calls of the abstract machine are calls of the machine -/
def am_Qo (G : am_G) (sc : Int → Int) (Q : am_Q) (A : Nat → Prop) : Array Value → State → Outcome → State → Prop := fun _ st oc t => (∃ (o : Option Int) (σ' : am_S), oc = .returned (o.map fun x => .int (Int32.ofInt x)) ∧ Q o σ' ∧ σ' am_NC = sc ∧ va_P G.1 am_cls (am_ws G σ') t.heap) ∧ va_F A st t
def am_rm (d : Nat) : Room := { frames := d, cells := 0, slots := 0, locals := 64 * d }
def am_wd (μ : Nat) : List Jvm.Cond := .code (am_met μ).1 (am_met μ).2.1 (am_met μ).2.2.1 (am_met μ).2.2.2.1 :: am_tbl
def am_Pm (G : am_G) (As : List am_V) (σ : am_S) (sz : Nat) : Array Value → State → Prop := va_Pc (As.map (am_vv G)) (fun U => U.heap.size = sz ∧ va_P G.1 am_cls (am_ws G σ) U.heap ∧ va_K G.1 am_cls (am_tys G) U ∧ va_D (fun _ => True) (am_ws G σ))
theorem am_okm_e {μ : Nat} (h : μ < am_law) : plainName (am_met μ).1.cls = true ∧ ((am_met μ).1.cls ≠ "java/lang/invoke/MethodHandle" ∧ (am_met μ).1.cls ≠ "java/lang/invoke/VarHandle") ∧ (am_met μ).2.2.1 ≤ 40 ∧ Jvm.Cond.code (am_met μ).1 (am_met μ).2.1 (am_met μ).2.2.1 (am_met μ).2.2.2.1 ∈ am_tbl ∧ Jvm.Cond.initialized (am_met μ).1.cls ∈ am_tbl ∧ ((am_met μ).2.2.2.2.1 = 99 ∨ (am_T (am_met μ).2.2.2.2.1).1 = (am_met μ).1.cls) := by
  have h1 := am_okm h
  unfold am_okM at h1
  simp only [Bool.and_eq_true, Bool.or_eq_true] at h1
  obtain ⟨⟨⟨⟨⟨⟨a1, a2⟩, a3⟩, a4⟩, a5⟩, a6⟩, a7⟩ := h1
  exact ⟨a1, ⟨of_decide_eq_true a2, of_decide_eq_true a3⟩, Nat.le_of_ble_eq_true a4, am_wat_in a5, am_wat_in a6, a7.elim (fun q => Or.inl (Nat.eq_of_beq_eq_true q)) (fun q => Or.inr (of_decide_eq_true q))⟩
theorem am_gd {μ : Nat} (h : μ < am_law) : GoodIn am_tbl (am_wd μ) := by
  intro w hw
  have hm : w ∈ am_tbl := by
    rcases List.mem_cons.mp hw with rfl | h2
    · exact (am_okm_e h).2.2.2.1
    · exact h2
  exact ⟨hm, good_of_word (am_good hm)⟩
set_option maxHeartbeats 4000000 in
/-- what the abstract machine says of a method is a contract of it -/
theorem am_met_of {l : Launch} {G : am_G} {d μ : Nat} (hμ : μ < am_law) {As : List am_V} (hlen : As.length ≤ (am_met μ).2.2.1) {σ : am_S} {Q : am_Q} (h : am_KM l G d μ 0 As [] σ Q) (h0 : am_pc μ 0 = 0) (sz : Nat) :
    Met l (am_met μ).1 (am_wd μ) (am_rm d) (am_Pm G As σ sz) (am_Qo G (σ am_NC) Q (va_A (am_ws G σ) sz)) 0 0 (va_A (am_ws G σ) sz) := by
  obtain ⟨k1, k2, k3, k4, k5, k6⟩ := am_okm_e hμ
  refine Met.ofW (cc := (am_met μ).2.1) (maxL := (am_met μ).2.2.1) (ret := (am_met μ).2.2.2.1) k1 rfl ?_
  intro p e s m args below meth c s₁ B hml hv
  obtain ⟨rfl, hsz, hP, hK, hD0⟩ := hv
  have hx := B.exec
  have hb := B.bytes
  have hr := B.returns
  have hts := atoms_spec (ws := am_wd μ) B.pre
  have hown : s.vm.findClass (am_met μ).1.cls = some m.cls := findClass_of_methodNamed B.named
  have hlocks := B.notSynchronized
  subst hsz
  have hD := hD0.self (sz := s.heap.size)
  have hl := lv_entry (As.map (am_vv G)) (n := (am_met μ).2.2.1) (by rw [am_sl]; exact hlen)
  rw [lg_entry_eq]
  rw [am_args] at hl
  generalize (lg_sl (As.map (am_vv G)) ++ List.replicate ((am_met μ).2.2.1 - (lg_sl (As.map (am_vv G))).length) Slot.unset).toArray = ls at hl ⊢
  have hl2 : am_LV G ls (am_met μ).2.2.1 As := by
    have e1 : (As.mapIdx fun j v => (0 + j, am_vv G v)) = am_lm G As := by
      unfold am_lm
      congr 1
      funext j v
      rw [Nat.zero_add]
    rw [e1] at hl
    exact hl
  have hX : am_X G (σ am_NC) d μ σ p (headSpec (am_wd μ) (am_rm d)).room s m ((As.map (am_vv G)).toArray) c s.heap [] 0 0 (va_A (am_ws G σ) s.heap.size) :=
    ⟨hx, hb, hml, hown, fun w hw => hts w (List.mem_cons_of_mem _ hw), ⟨Nat.le_refl _, Nat.le_refl _, Nat.le_refl _, Nat.le_refl _⟩, hK, hP, hD, va_S.rf, fun q hq => Or.inr hq, rfl, fun q => by subst q; exact absurd hμ (Nat.lt_irrefl _)⟩
  have w := h p e (headSpec (am_wd μ) (am_rm d)).room s m ((As.map (am_vv G)).toArray) below meth c s.heap [] 0 0 ls (va_A (am_ws G σ) s.heap.size) (MQ below (am_Qo G (σ am_NC) Q (va_A (am_ws G σ) s.heap.size)) ((As.map (am_vv G)).toArray) s 0 0 (va_A (am_ws G σ) s.heap.size)) (σ am_NC) hX hl2 (by
    intro o σ' H' locs' pc ls' hq hX' hrt hdg
    obtain ⟨-, -, -, -, -, -, -, hP', -, hS', -, hsc'⟩ := hX'
    cases o with
    | none => exact W.vret hx hb (hr.trans hrt) (fun t ht hW => ⟨⟨none, σ', rfl, hq, hsc'.1, by rw [ht]; exact hP'⟩, hS'.F ht⟩) hS'.2.2 hdg
    | some v =>
      obtain ⟨ty, hty, hn⟩ := hrt
      exact W.zret hx hb (hr.trans hty) hn (fun t ht hW => ⟨⟨some v, σ', rfl, hq, hsc'.1, by rw [ht]; exact hP'⟩, hS'.F ht⟩) hS'.2.2 hdg)
  rw [h0] at w
  exact w
section
variable {p : Program} {l : Launch} {e : Env} {R : Room} {s : State} {m : MethodId} {args : Array Value} {below : List Frame} {meth : Method} {c : Code} {H : Heap} {locs : List Loc} {cells slots : Nat} {Z : State → Prop}
/-- behind a call -/
theorem am_back {G : am_G} {sc : Int → Int} {Q : am_Q} {pc : Nat} {ls : Array Slot} {rest st0 : List Value} {a : Array Value} {A0 A1 : Nat → Prop} {H0 : Heap} {free : Addr → Prop} (hr : va_Run p l e R s m args below meth c H locs cells slots 0 0 (F0 m pc ls st0) rest (am_Qo G sc Q A1 a) free) (hS : va_S A0 H0 H locs) (hA : ∀ q, q < H.size → A1 q → A0 q) (hf : ∀ q, free q → A0 q)
    (kk : ∀ (o : Option Int) (σ' : am_S) (H1 : Heap) (locs1 : List Loc), Q o σ' → σ' am_NC = sc → va_P G.1 am_cls (am_ws G σ') H1 → va_S A0 H0 H1 locs1 → W p l e R s m args below meth c H1 locs1 cells slots Z (F0 m (pc + 3) ls ((am_o o).map (am_vv G) ++ rest))) : W p l e R s m args below meth c H locs cells slots Z (F0 m pc ls st0) := by
  intro T hT X
  obtain ⟨v, st₀, t, T', L, h0, X', hL, e1, e2, ⟨⟨o, σ', hv, hq, hsc, hb⟩, hz, hk⟩, st⟩ := hr T hT X
  have hv2 : v = o.map fun x => .int (Int32.ofInt x) := by
    cases hv
    rfl
  subst hv2
  rw [h0] at hz hk
  obtain ⟨t2, a1, b1⟩ := kk o σ' T'.heap (locs ++ L) hq hsc (by rw [e1]; exact hb)
    ⟨Nat.le_trans hS.1 (by rw [e1]; exact hz), fun q h1 h2 => by rw [e1, hk q (Nat.lt_of_lt_of_le h1 hS.1) (fun z => h2 (hA q (Nat.lt_of_lt_of_le h1 hS.1) z))]; exact hS.2.1 q h1 h2, fun q hq => by
      rcases List.mem_append.mp hq with h | h
      · exact hS.2.2 q h
      · exact hf _ (hL q h)⟩ T' rfl X'
  refine ⟨t2, st t2 ?_, b1⟩
  cases o with
  | none => exact a1
  | some x => exact a1
end
theorem am_pc0 {μ : Nat} (h : μ < am_law) : am_pc μ 0 = 0 := by
  have h1 : ((List.range am_law).all fun i => Nat.beq (am_pc i 0) 0) = true := by decide +kernel
  exact Nat.eq_of_beq_eq_true (List.all_eq_true.mp h1 μ (List.mem_range.mpr h))
theorem am_sumcat (G : am_G) (st : List am_V) : ((st.map (am_vv G)).map fun v => v.category).sum = st.length := by
  induction st with
  | nil => rfl
  | cons v vs ih => rw [List.map_cons, List.map_cons, List.sum_cons, ih, am_vv_cat, List.length_cons, Nat.add_comm]
theorem am_blind (G : am_G) (As : List am_V) (σ : am_S) (sz : Nat) : FrameBlind (am_Pm G As σ sz) := by
  intro a U g mk q
  obtain ⟨q0, q1, qP, qK, qD⟩ := q
  exact ⟨q0, q1, qP, va_K.moved (u := U) (U := U.calling g mk a) (Vm.Alike.refl U.vm) qK, qD⟩
theorem am_A {G : am_G} {σ : am_S} {A : Nat → Prop} {H0 H : Heap} {locs : List Loc} (hD : va_D A (am_ws G σ)) (hS : va_S A H0 H locs) (hA : ∀ q : Nat, H0.size ≤ q → A q) : ∀ q, va_A (am_ws G σ) H.size q → A q := by
  intro q h
  rcases h with ⟨k, e, h⟩ | h
  · exact hD.2 k _ h
  · exact hA q (Nat.le_trans hS.1 h)
/-- what is known, behind a call -/
theorem am_X_call {G : am_G} {sc : Int → Int} {d μ : Nat} {σ σ' : am_S} {p : Program} {R : Room} {s : State} {m : MethodId} {args : Array Value} {c : Code} {H H1 : Heap} {locs locs1 : List Loc} {cells slots : Nat} {A : Nat → Prop} (hX : am_X G sc d μ σ p R s m args c H locs cells slots A) (hs : σ' am_NC = σ am_NC) (hP : va_P G.1 am_cls (am_ws G σ') H1) (hS : va_S A s.heap H1 locs1) : am_X G sc d μ σ' p R s m args c H1 locs1 cells slots A := by
  obtain ⟨hx, hb, hml, hown, hts, hroom, hK, -, hD, -, hA, hsc⟩ := hX
  refine ⟨hx, hb, hml, hown, hts, hroom, hK, hP, am_ws_D hD _, hS, hA, hs.trans hsc.1, fun hμ => ?_⟩
  obtain ⟨L, xs, h1, h2, h3, h4, h5, h6⟩ := hsc.2 hμ
  exact ⟨L, xs, h1, h2, h3, by rw [hs]; exact h4, h5, fun j hj => by rw [hs]; exact h6 j hj⟩
theorem am_PreS {G : am_G} {sc : Int → Int} {d μ : Nat} {σ : am_S} {p : Program} {R : Room} {s : State} {m : MethodId} {args : Array Value} {c : Code} {H : Heap} {locs : List Loc} {cells slots : Nat} {A : Nat → Prop} (hX : am_X G sc d μ σ p R s m args c H locs cells slots A) (As : List am_V) : PreS s H (am_Pm G As σ H.size) (As.map (am_vv G)) := by
  obtain ⟨hx, hb, hml, hown, hts, hroom, hK, hP, hD, hS, hA, hsc⟩ := hX
  exact ⟨am_blind G As σ H.size, fun U hU hW => ⟨rfl, by rw [hU], by rw [hU]; exact hP, va_K.moved hW.alike hK, hD.weaken (fun _ _ _ _ => trivial)⟩⟩
set_option maxHeartbeats 4000000 in
theorem am_s_invokevirtual {l : Launch} {G : am_G} {d μ k : Nat} {lv st : List am_V} {σ : am_S} {Q : am_Q} {pc len x y : Nat} {c : Int} {z : List Nat} {i : Nat} (he : (am_tab μ)[k]? = some (pc, .invokevirtual i, len, x, y, c, z)) (h : am_ins (am_KM l G) d μ k lv st σ Q (.invokevirtual i) x y c z) : am_KM l G d μ k lv st σ Q := by
  obtain ⟨hdg, hok, hpc⟩ := am_ok2 he
  obtain ⟨hok, hxl⟩ := Bool.and_eq_true_iff.mp hok
  obtain ⟨hok, hml2⟩ := Bool.and_eq_true_iff.mp hok
  obtain ⟨hok, hpd⟩ := Bool.and_eq_true_iff.mp hok
  obtain ⟨hok, hsel⟩ := Bool.and_eq_true_iff.mp hok
  obtain ⟨hok, hins⟩ := Bool.and_eq_true_iff.mp hok
  obtain ⟨hok, hlk⟩ := Bool.and_eq_true_iff.mp hok
  have hxl := of_decide_eq_true hxl
  have hml2 := Nat.le_of_ble_eq_true hml2
  have hpd := of_decide_eq_true hpd
  obtain ⟨rfl, hnx⟩ := am_nx_e hok
  rcases d with _ | d'
  · exact False.elim h
  obtain ⟨r, st', hst, h⟩ := am_r1_e h
  obtain ⟨hg, h⟩ := am_g_e h
  obtain ⟨hg, hy⟩ := Bool.and_eq_true_iff.mp hg
  obtain ⟨hO, hs8⟩ := Bool.and_eq_true_iff.mp hg
  have hy := Nat.le_of_ble_eq_true hy
  have hs8 := Nat.le_of_ble_eq_true hs8
  obtain ⟨refs, hL⟩ := am_isO_e hO
  obtain ⟨hcl, hrl⟩ := am_lay_cls hL
  have hr := am_lay_lt hL (show (0 : Nat) ≠ 4 by decide)
  obtain ⟨k1, k2, k3, k4, k5, k6⟩ := am_okm_e hxl
  have hst2 : st = (st.take y).reverse.reverse ++ .inr r :: st' := by
    rw [List.reverse_reverse, ← hst, List.take_append_drop]
  have hlen : (st.take y).reverse.length = y := by
    rw [List.length_reverse, List.length_take]
    omega
  generalize (st.take y).reverse = As at h hst2 hlen
  intro p e R s m args below meth c0 H locs cells slots ls A Z sc hX hl hR
  obtain ⟨hx, hb, hml, hown, hts, hroom, hK, hP, hD, hS, hA, hsc⟩ := id hX
  rw [hpc]
  have hC : (am_T (am_met x).2.2.2.2.1).1 = (am_met x).1.cls := by
    rcases k6 with q | q
    · rw [q] at hcl
      cases (show am_cls[99]? = none from rfl).symm.trans hcl
    · exact q
  have hM := am_met_of hxl (As := .inr r :: As) (by show As.length + 1 ≤ _; omega) h (am_pc0 hxl) H.size
  have hwd : ∀ w ∈ am_wd x, w ∈ am_tbl := fun w hw => (am_gd hxl w hw).1
  have hcb : CallB R s args (am_met μ).1.cls i (am_met x).1 (am_met x).2.1 (am_met x).2.2.1 (am_met x).2.2.2.1 (am_wd x) (am_rm d') 0 0 y :=
    callB_of y hts (am_gd hxl) rfl rfl rfl (hts _ k5) (hts _ (am_wat_in hlk)) ⟨k2.1, k2.2, hpd⟩ ⟨hroom.1, by show 8 + ((am_met x).2.2.1 + 11) + 64 * d' ≤ R.locals; have := hroom.2.1; omega⟩
  have hrun := va_runV (e := e) (below := below) (meth := meth) (locs := locs) (g := F0 m pc ls (st.map (am_vv G))) (As := As.map (am_vv G)) (rest := st'.map (am_vv G)) (b := G.2.1 r) (C := (am_met x).1.cls) ⟨hx, hb, hml, hown, hts⟩ hM ⟨hcb, hts _ (am_wat_in hins), hts _ (am_wat_in hsel)⟩
    ⟨am_blind G _ σ H.size, by rw [← hC]; exact va_recv hK hP hcl (am_ws_at G σ hL hr), (am_PreS hX (.inr r :: As)).2⟩ rfl (by rw [List.length_map, hlen]) hl.1 (by show st.map (am_vv G) = _; rw [hst2]; simp [am_vv]) (lv_room (by rw [am_sumcat]; exact hs8)) hdg ⟨hroom.2.2.1, hroom.2.2.2⟩
  refine am_back hrun hS (fun q _ hq => am_A hD hS hA q hq) (am_A hD hS hA) (fun o σ' H1 locs1 hq hs1 hP1 hS1 => ?_)
  have w := hq p e R s m args below meth c0 H1 locs1 cells slots ls A Z sc (am_X_call hX hs1 hP1 hS1) hl hR
  rw [hnx, List.map_append] at w
  exact w
set_option maxHeartbeats 4000000 in
theorem am_s_invokestatic {l : Launch} {G : am_G} {d μ k : Nat} {lv st : List am_V} {σ : am_S} {Q : am_Q} {pc len x y : Nat} {c : Int} {z : List Nat} {i : Nat} (he : (am_tab μ)[k]? = some (pc, .invokestatic i, len, x, y, c, z)) (h : am_ins (am_KM l G) d μ k lv st σ Q (.invokestatic i) x y c z) : am_KM l G d μ k lv st σ Q := by
  obtain ⟨hdg, hok, hpc⟩ := am_ok2 he
  obtain ⟨hok, hrow⟩ := Bool.and_eq_true_iff.mp hok
  obtain ⟨rfl, hnx⟩ := am_nx_e hok
  rcases d with _ | d'
  · exact False.elim h
  have h : (match Nat.beq x 1000 with
        | true => am_p2 st fun a b st' => am_g (Nat.ble st'.length 8) (am_rng a ∧ am_rng b ∧ am_KM l G (d' + 1) μ (k + 1) lv (.inl (max a b) :: st') σ Q)
        | false => (match Nat.beq x 1001 with
          | true => am_p2 st fun a b st' => am_g (Nat.ble st'.length 8) (am_rng a ∧ am_rng b ∧ am_KM l G (d' + 1) μ (k + 1) lv (.inl (min a b) :: st') σ Q)
          | false => am_g (Nat.ble (st.drop y).length 8 && Nat.ble y st.length)
            (am_KM l G d' x 0 (st.take y).reverse [] σ fun o σ' => am_KM l G (d' + 1) μ (k + 1) lv (am_o o ++ st.drop y) σ' Q))) := h
  cases hb1 : Nat.beq x 1000 with
  | true =>
    rw [hb1] at h hrow
    obtain ⟨a, b, st', rfl, h⟩ := am_p2_e h
    obtain ⟨hs8, ra, rb, h⟩ := am_g_e h
    have hs8 := Nat.le_of_ble_eq_true hs8
    obtain ⟨w1, w2⟩ := Bool.and_eq_true_iff.mp hrow
    intro p e R s m args below meth c0 H locs cells slots ls A Z sc hX hl hR
    obtain ⟨hx, hb, hml, hown, hts, hroom, hK, hP, hD, hS, hA, hsc⟩ := id hX
    rw [hpc]
    have w := h p e R s m args below meth c0 H locs cells slots ls A Z sc hX hl hR
    rw [hnx] at w
    refine va_mmax hx hb (hml.trans hl.1.symm) hown (hts _ (am_wat_in w1)) (hts _ (am_wat_in w2)) (hts _ am_wmath) (hts _ am_wmax) (by have := hroom.1; omega) (by rw [am_sumcat]; have := hroom.2.1; omega) hroom.2.2.1 hroom.2.2.2 hdg ?_
    have e1 : (if Int32.ofInt a < Int32.ofInt b then Int32.ofInt b else Int32.ofInt a) = Int32.ofInt (max a b) := by
      by_cases q : a < b
      · rw [if_pos ((am_lt ra rb).mpr q), Int.max_eq_right (Int.le_of_lt q)]
      · rw [if_neg (fun z => q ((am_lt ra rb).mp z)), Int.max_eq_left (Int.not_lt.mp q)]
    rw [e1]
    exact w
  | false =>
    rw [hb1] at h hrow
    cases hb2 : Nat.beq x 1001 with
    | true =>
      simp only [hb2] at h hrow
      obtain ⟨a, b, st', rfl, h⟩ := am_p2_e h
      obtain ⟨hs8, ra, rb, h⟩ := am_g_e h
      have hs8 := Nat.le_of_ble_eq_true hs8
      obtain ⟨w1, w2⟩ := Bool.and_eq_true_iff.mp hrow
      intro p e R s m args below meth c0 H locs cells slots ls A Z sc hX hl hR
      obtain ⟨hx, hb, hml, hown, hts, hroom, hK, hP, hD, hS, hA, hsc⟩ := id hX
      rw [hpc]
      have w := h p e R s m args below meth c0 H locs cells slots ls A Z sc hX hl hR
      rw [hnx] at w
      refine va_mmin hx hb (hml.trans hl.1.symm) hown (hts _ (am_wat_in w1)) (hts _ (am_wat_in w2)) (hts _ am_wmath) (hts _ am_wmin) (by have := hroom.1; omega) (by rw [am_sumcat]; have := hroom.2.1; omega) hroom.2.2.1 hroom.2.2.2 hdg ?_
      have e1 : (if Int32.ofInt b < Int32.ofInt a then Int32.ofInt b else Int32.ofInt a) = Int32.ofInt (min a b) := by
        by_cases q : b < a
        · rw [if_pos ((am_lt rb ra).mpr q), Int.min_eq_right (Int.le_of_lt q)]
        · rw [if_neg (fun z => q ((am_lt rb ra).mp z)), Int.min_eq_left (Int.not_lt.mp q)]
      rw [e1]
      exact w
    | false =>
      simp only [hb2] at h hrow
      obtain ⟨hg, h⟩ := am_g_e h
      obtain ⟨hs8, hy⟩ := Bool.and_eq_true_iff.mp hg
      have hy := Nat.le_of_ble_eq_true hy
      have hs8 := Nat.le_of_ble_eq_true hs8
      obtain ⟨hrow, hxl⟩ := Bool.and_eq_true_iff.mp hrow
      obtain ⟨hrow, hml2⟩ := Bool.and_eq_true_iff.mp hrow
      obtain ⟨hrow, hpd⟩ := Bool.and_eq_true_iff.mp hrow
      obtain ⟨hlk, hstt⟩ := Bool.and_eq_true_iff.mp hrow
      have hxl := of_decide_eq_true hxl
      have hml2 := Nat.le_of_ble_eq_true hml2
      have hpd := of_decide_eq_true hpd
      obtain ⟨k1, k2, k3, k4, k5, k6⟩ := am_okm_e hxl
      have hst2 : st = (st.take y).reverse.reverse ++ st.drop y := by rw [List.reverse_reverse, List.take_append_drop]
      have hlen : (st.take y).reverse.length = y := by
        rw [List.length_reverse, List.length_take]
        omega
      generalize (st.take y).reverse = As at h hst2 hlen
      generalize st.drop y = st' at h hst2 hs8
      intro p e R s m args below meth c0 H locs cells slots ls A Z sc hX hl hR
      obtain ⟨hx, hb, hml, hown, hts, hroom, hK, hP, hD, hS, hA, hsc⟩ := id hX
      rw [hpc]
      have hM := am_met_of hxl (As := As) (by omega) h (am_pc0 hxl) H.size
      have hcb : CallB R s args (am_met μ).1.cls i (am_met x).1 (am_met x).2.1 (am_met x).2.2.1 (am_met x).2.2.2.1 (am_wd x) (am_rm d') 0 0 y :=
        callB_of y hts (am_gd hxl) rfl rfl rfl (hts _ k5) (hts _ (am_wat_in hlk)) ⟨k2.1, k2.2, hpd⟩ ⟨hroom.1, by show 8 + ((am_met x).2.2.1 + 11) + 64 * d' ≤ R.locals; have := hroom.2.1; omega⟩
      have hrun := va_runS (e := e) (below := below) (meth := meth) (locs := locs) (g := F0 m pc ls (st.map (am_vv G))) (As := As.map (am_vv G)) (rest := st'.map (am_vv G)) ⟨hx, hb, hml, hown, hts⟩ hM ⟨hcb, hts _ (am_wat_in hstt)⟩
        (am_PreS hX As) rfl (by rw [List.length_map, hlen]) hl.1 (by show st.map (am_vv G) = _; rw [hst2]; simp) (lv_room (by rw [am_sumcat]; exact hs8)) hdg ⟨hroom.2.2.1, hroom.2.2.2⟩
      refine am_back hrun hS (fun q _ hq => am_A hD hS hA q hq) (am_A hD hS hA) (fun o σ' H1 locs1 hq hs1 hP1 hS1 => ?_)
      have w := hq p e R s m args below meth c0 H1 locs1 cells slots ls A Z sc (am_X_call hX hs1 hP1 hS1) hl hR
      rw [hnx, List.map_append] at w
      exact w
/-- THE ABSTRACT MACHINE IS SOUND -/
theorem am_sound (l : Launch) (G : am_G) : am_C (am_KM l G) := by
  refine ⟨fun d μ k lv st σ Q h => ?_, fun d μ k lv lv' st σ Q h => ?_, fun d μ k lv st σ Q Q' hQ h => ?_⟩
  · unfold am_stp at h
    split at h
    · rename_i e he
      obtain ⟨pc, i, len, x, y, c, z⟩ := e
      cases i with
      | iconst => exact am_s_iconst he h
      | bipush => exact am_s_bipush he h
      | sipush => exact am_s_sipush he h
      | ldc => exact am_s_ldc he h
      | ldc_w => exact am_s_ldc_w he h
      | iload_n => exact am_s_iload_n he h
      | aload_n => exact am_s_aload_n he h
      | iload => exact am_s_iload he h
      | aload => exact am_s_aload he h
      | istore_n => exact am_s_istore_n he h
      | astore_n => exact am_s_astore_n he h
      | istore => exact am_s_istore he h
      | astore => exact am_s_astore he h
      | iinc => exact am_s_iinc he h
      | iadd => exact am_s_iadd he h
      | isub => exact am_s_isub he h
      | imul => exact am_s_imul he h
      | iand => exact am_s_iand he h
      | ior => exact am_s_ior he h
      | ixor => exact am_s_ixor he h
      | ishl => exact am_s_ishl he h
      | ishr => exact am_s_ishr he h
      | iushr => exact am_s_iushr he h
      | idiv => exact am_s_idiv he h
      | irem => exact am_s_irem he h
      | ineg => exact am_s_ineg he h
      | goto => exact am_s_goto he h
      | if_icmp => exact am_s_if_icmp he h
      | ifCond => exact am_s_ifCond he h
      | tableswitch => exact am_s_tableswitch he h
      | getfield => exact am_s_getfield he h
      | putfield => exact am_s_putfield he h
      | iaload => exact am_s_iaload he h
      | baload => exact am_s_baload he h
      | aaload => exact am_s_aaload he h
      | iastore => exact am_s_iastore he h
      | bastore => exact am_s_bastore he h
      | arraylength => exact am_s_arraylength he h
      | dup => exact am_s_dup he h
      | dup2 => exact am_s_dup2 he h
      | pop => exact am_s_pop he h
      | ireturn => exact am_s_ireturn he h
      | return_ => exact am_s_return_ he h
      | invokevirtual => exact am_s_invokevirtual he h
      | invokestatic => exact am_s_invokestatic he h
      | _ => exact False.elim h
    · exact False.elim h
  · intro p e R s m args below meth c0 H locs cells slots ls A Z sc hX hl hR
    exact h p e R s m args below meth c0 H locs cells slots ls A Z sc hX (am_LV_trunc hl) hR
  · intro p e R s m args below meth c0 H locs cells slots ls A Z sc hX hl hR
    exact h p e R s m args below meth c0 H locs cells slots ls A Z sc hX hl (fun o σ' H' locs' pc ls' q => hR o σ' H' locs' pc ls' (hQ o σ' q))
end
