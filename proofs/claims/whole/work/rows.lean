section
-- ===== PART A: goes FIRST, ahead of the names: the tables' words, and 'selects' of the private methods out of them =====
/-- a private method of a class that the tables say can be made, by its rows of tables_1 -/
def lw_okq (q : MethodName × Nat) : Prop := (q.1.cls ≠ "java/lang/invoke/MethodHandle" ∧ q.1.cls ≠ "java/lang/invoke/VarHandle") ∧ Cond.instantiable q.1.cls q.2 ∈ tables_1 ∧ Cond.privateMethod q.1 ∈ tables_1 ∧ Cond.instanceMethod q.1 ∈ tables_1
theorem lw_p0 : lw_okq (⟨"GloveReply$Text", "fits", "(I)Z"⟩, 2) := ⟨⟨by decide +kernel, by decide +kernel⟩, List.mem_of_getElem? (i := 18) (by decide +kernel), List.mem_of_getElem? (i := 195) (by decide +kernel), List.mem_of_getElem? (i := 196) (by decide +kernel)⟩
theorem lw_p1 : lw_okq (⟨"GloveReply$Text", "partsAhead", "(II)I"⟩, 2) := ⟨⟨by decide +kernel, by decide +kernel⟩, List.mem_of_getElem? (i := 18) (by decide +kernel), List.mem_of_getElem? (i := 202) (by decide +kernel), List.mem_of_getElem? (i := 203) (by decide +kernel)⟩
theorem lw_p2 : lw_okq (⟨"GloveReply$Text", "endsAPart", "()Z"⟩, 2) := ⟨⟨by decide +kernel, by decide +kernel⟩, List.mem_of_getElem? (i := 18) (by decide +kernel), List.mem_of_getElem? (i := 223) (by decide +kernel), List.mem_of_getElem? (i := 224) (by decide +kernel)⟩
theorem lw_p3 : lw_okq (⟨"GloveReply$Desk", "addPerson", "(LGloveReply$Text;I)V"⟩, 8) := ⟨⟨by decide +kernel, by decide +kernel⟩, List.mem_of_getElem? (i := 32) (by decide +kernel), List.mem_of_getElem? (i := 237) (by decide +kernel), List.mem_of_getElem? (i := 238) (by decide +kernel)⟩
theorem lw_p4 : lw_okq (⟨"GloveReply$Desk", "addGlove", "(LGloveReply$Text;I)V"⟩, 8) := ⟨⟨by decide +kernel, by decide +kernel⟩, List.mem_of_getElem? (i := 32) (by decide +kernel), List.mem_of_getElem? (i := 243) (by decide +kernel), List.mem_of_getElem? (i := 244) (by decide +kernel)⟩
theorem lw_p5 : lw_okq (⟨"GloveReply", "forgetSlots", "()V"⟩, 9) := ⟨⟨by decide +kernel, by decide +kernel⟩, List.mem_of_getElem? (i := 10) (by decide +kernel), List.mem_of_getElem? (i := 265) (by decide +kernel), List.mem_of_getElem? (i := 266) (by decide +kernel)⟩
theorem lw_p6 : lw_okq (⟨"GloveReply$Acts", "placeAt", "(I)LGloveReply$Moment;"⟩, 3) := ⟨⟨by decide +kernel, by decide +kernel⟩, List.mem_of_getElem? (i := 82) (by decide +kernel), List.mem_of_getElem? (i := 364) (by decide +kernel), List.mem_of_getElem? (i := 365) (by decide +kernel)⟩
theorem lw_p7 : lw_okq (⟨"GloveReply", "layDown", "(I)V"⟩, 9) := ⟨⟨by decide +kernel, by decide +kernel⟩, List.mem_of_getElem? (i := 10) (by decide +kernel), List.mem_of_getElem? (i := 395) (by decide +kernel), List.mem_of_getElem? (i := 396) (by decide +kernel)⟩
theorem lw_p8 : lw_okq (⟨"GloveReply", "isRow", "(II)Z"⟩, 9) := ⟨⟨by decide +kernel, by decide +kernel⟩, List.mem_of_getElem? (i := 10) (by decide +kernel), List.mem_of_getElem? (i := 439) (by decide +kernel), List.mem_of_getElem? (i := 440) (by decide +kernel)⟩
theorem lw_p9 : lw_okq (⟨"GloveReply", "replyToRow", "(III)I"⟩, 9) := ⟨⟨by decide +kernel, by decide +kernel⟩, List.mem_of_getElem? (i := 10) (by decide +kernel), List.mem_of_getElem? (i := 443) (by decide +kernel), List.mem_of_getElem? (i := 444) (by decide +kernel)⟩
theorem lw_p10 : lw_okq (⟨"GloveReply", "lastAfterWashes", "(II)I"⟩, 9) := ⟨⟨by decide +kernel, by decide +kernel⟩, List.mem_of_getElem? (i := 10) (by decide +kernel), List.mem_of_getElem? (i := 494) (by decide +kernel), List.mem_of_getElem? (i := 495) (by decide +kernel)⟩
theorem lw_p11 : lw_okq (⟨"GloveReply", "secretOf", "(II)I"⟩, 9) := ⟨⟨by decide +kernel, by decide +kernel⟩, List.mem_of_getElem? (i := 10) (by decide +kernel), List.mem_of_getElem? (i := 506) (by decide +kernel), List.mem_of_getElem? (i := 507) (by decide +kernel)⟩
theorem lw_p12 : lw_okq (⟨"GloveReply", "worthOn", "(II)I"⟩, 9) := ⟨⟨by decide +kernel, by decide +kernel⟩, List.mem_of_getElem? (i := 10) (by decide +kernel), List.mem_of_getElem? (i := 557) (by decide +kernel), List.mem_of_getElem? (i := 558) (by decide +kernel)⟩
theorem lw_p13 : lw_okq (⟨"GloveReply", "pleasesOnTrial", "(II)Z"⟩, 9) := ⟨⟨by decide +kernel, by decide +kernel⟩, List.mem_of_getElem? (i := 10) (by decide +kernel), List.mem_of_getElem? (i := 592) (by decide +kernel), List.mem_of_getElem? (i := 593) (by decide +kernel)⟩
theorem lw_p14 : lw_okq (⟨"GloveReply", "slotAt", "(I)LGloveReply$Moment;"⟩, 9) := ⟨⟨by decide +kernel, by decide +kernel⟩, List.mem_of_getElem? (i := 10) (by decide +kernel), List.mem_of_getElem? (i := 600) (by decide +kernel), List.mem_of_getElem? (i := 601) (by decide +kernel)⟩
theorem lw_p15 : lw_okq (⟨"GloveReplyModel", "readDesk", "()I"⟩, 31) := ⟨⟨by decide +kernel, by decide +kernel⟩, List.mem_of_getElem? (i := 612) (by decide +kernel), List.mem_of_getElem? (i := 729) (by decide +kernel), List.mem_of_getElem? (i := 730) (by decide +kernel)⟩
def lw_privs_1 : List (MethodName × Nat) := [(⟨"GloveReply$Text", "fits", "(I)Z"⟩, 2), (⟨"GloveReply$Text", "partsAhead", "(II)I"⟩, 2), (⟨"GloveReply$Text", "endsAPart", "()Z"⟩, 2), (⟨"GloveReply$Desk", "addPerson", "(LGloveReply$Text;I)V"⟩, 8), (⟨"GloveReply$Desk", "addGlove", "(LGloveReply$Text;I)V"⟩, 8), (⟨"GloveReply", "forgetSlots", "()V"⟩, 9), (⟨"GloveReply$Acts", "placeAt", "(I)LGloveReply$Moment;"⟩, 3), (⟨"GloveReply", "layDown", "(I)V"⟩, 9), (⟨"GloveReply", "isRow", "(II)Z"⟩, 9), (⟨"GloveReply", "replyToRow", "(III)I"⟩, 9), (⟨"GloveReply", "lastAfterWashes", "(II)I"⟩, 9), (⟨"GloveReply", "secretOf", "(II)I"⟩, 9), (⟨"GloveReply", "worthOn", "(II)I"⟩, 9), (⟨"GloveReply", "pleasesOnTrial", "(II)Z"⟩, 9), (⟨"GloveReply", "slotAt", "(I)LGloveReply$Moment;"⟩, 9), (⟨"GloveReplyModel", "readDesk", "()I"⟩, 31)]
theorem lw_r1 : ∀ q ∈ lw_privs_1, lw_okq q := List.forall_mem_cons.mpr ⟨lw_p0, List.forall_mem_cons.mpr ⟨lw_p1, List.forall_mem_cons.mpr ⟨lw_p2, List.forall_mem_cons.mpr ⟨lw_p3, List.forall_mem_cons.mpr ⟨lw_p4, List.forall_mem_cons.mpr ⟨lw_p5, List.forall_mem_cons.mpr ⟨lw_p6, List.forall_mem_cons.mpr ⟨lw_p7, List.forall_mem_cons.mpr ⟨lw_p8, List.forall_mem_cons.mpr ⟨lw_p9, List.forall_mem_cons.mpr ⟨lw_p10, List.forall_mem_cons.mpr ⟨lw_p11, List.forall_mem_cons.mpr ⟨lw_p12, List.forall_mem_cons.mpr ⟨lw_p13, List.forall_mem_cons.mpr ⟨lw_p14, List.forall_mem_cons.mpr ⟨lw_p15, fun _ h => absurd h List.not_mem_nil⟩⟩⟩⟩⟩⟩⟩⟩⟩⟩⟩⟩⟩⟩⟩⟩
theorem lw_p16 : lw_okq (⟨"GloveReplyModel", "readPart", "()Z"⟩, 31) := ⟨⟨by decide +kernel, by decide +kernel⟩, List.mem_of_getElem? (i := 612) (by decide +kernel), List.mem_of_getElem? (i := 733) (by decide +kernel), List.mem_of_getElem? (i := 734) (by decide +kernel)⟩
theorem lw_p17 : lw_okq (⟨"GloveReplyModel", "readPerson", "()Z"⟩, 31) := ⟨⟨by decide +kernel, by decide +kernel⟩, List.mem_of_getElem? (i := 612) (by decide +kernel), List.mem_of_getElem? (i := 737) (by decide +kernel), List.mem_of_getElem? (i := 738) (by decide +kernel)⟩
theorem lw_p18 : lw_okq (⟨"GloveReplyModel", "figure", "(II)I"⟩, 31) := ⟨⟨by decide +kernel, by decide +kernel⟩, List.mem_of_getElem? (i := 612) (by decide +kernel), List.mem_of_getElem? (i := 741) (by decide +kernel), List.mem_of_getElem? (i := 742) (by decide +kernel)⟩
theorem lw_p19 : lw_okq (⟨"GloveReplyModel", "readGlove", "()Z"⟩, 31) := ⟨⟨by decide +kernel, by decide +kernel⟩, List.mem_of_getElem? (i := 612) (by decide +kernel), List.mem_of_getElem? (i := 745) (by decide +kernel), List.mem_of_getElem? (i := 746) (by decide +kernel)⟩
theorem lw_p20 : lw_okq (⟨"GloveReplyModel", "isWorn", "([II)Z"⟩, 31) := ⟨⟨by decide +kernel, by decide +kernel⟩, List.mem_of_getElem? (i := 612) (by decide +kernel), List.mem_of_getElem? (i := 757) (by decide +kernel), List.mem_of_getElem? (i := 758) (by decide +kernel)⟩
theorem lw_p21 : lw_okq (⟨"GloveReplyModel", "noPerson", "(I)Z"⟩, 31) := ⟨⟨by decide +kernel, by decide +kernel⟩, List.mem_of_getElem? (i := 612) (by decide +kernel), List.mem_of_getElem? (i := 765) (by decide +kernel), List.mem_of_getElem? (i := 766) (by decide +kernel)⟩
theorem lw_p22 : lw_okq (⟨"GloveReplyModel", "wears", "([II)I"⟩, 31) := ⟨⟨by decide +kernel, by decide +kernel⟩, List.mem_of_getElem? (i := 612) (by decide +kernel), List.mem_of_getElem? (i := 770) (by decide +kernel), List.mem_of_getElem? (i := 771) (by decide +kernel)⟩
theorem lw_p23 : lw_okq (⟨"GloveReplyModel", "noGlove", "(I)Z"⟩, 31) := ⟨⟨by decide +kernel, by decide +kernel⟩, List.mem_of_getElem? (i := 612) (by decide +kernel), List.mem_of_getElem? (i := 778) (by decide +kernel), List.mem_of_getElem? (i := 779) (by decide +kernel)⟩
theorem lw_p24 : lw_okq (⟨"GloveReplyModel", "note", "()V"⟩, 31) := ⟨⟨by decide +kernel, by decide +kernel⟩, List.mem_of_getElem? (i := 612) (by decide +kernel), List.mem_of_getElem? (i := 786) (by decide +kernel), List.mem_of_getElem? (i := 787) (by decide +kernel)⟩
theorem lw_p25 : lw_okq (⟨"GloveReplyModel", "doesOn", "([III)I"⟩, 31) := ⟨⟨by decide +kernel, by decide +kernel⟩, List.mem_of_getElem? (i := 612) (by decide +kernel), List.mem_of_getElem? (i := 790) (by decide +kernel), List.mem_of_getElem? (i := 791) (by decide +kernel)⟩
theorem lw_p26 : lw_okq (⟨"GloveReplyModel", "goOff", "([II)V"⟩, 31) := ⟨⟨by decide +kernel, by decide +kernel⟩, List.mem_of_getElem? (i := 612) (by decide +kernel), List.mem_of_getElem? (i := 801) (by decide +kernel), List.mem_of_getElem? (i := 802) (by decide +kernel)⟩
theorem lw_p27 : lw_okq (⟨"GloveReplyModel", "keepDoing", "([III)V"⟩, 31) := ⟨⟨by decide +kernel, by decide +kernel⟩, List.mem_of_getElem? (i := 612) (by decide +kernel), List.mem_of_getElem? (i := 805) (by decide +kernel), List.mem_of_getElem? (i := 806) (by decide +kernel)⟩
theorem lw_p28 : lw_okq (⟨"GloveReplyModel", "noRow", "(II)Z"⟩, 31) := ⟨⟨by decide +kernel, by decide +kernel⟩, List.mem_of_getElem? (i := 612) (by decide +kernel), List.mem_of_getElem? (i := 825) (by decide +kernel), List.mem_of_getElem? (i := 826) (by decide +kernel)⟩
theorem lw_p29 : lw_okq (⟨"GloveReplyModel", "doesBy", "(III)I"⟩, 31) := ⟨⟨by decide +kernel, by decide +kernel⟩, List.mem_of_getElem? (i := 612) (by decide +kernel), List.mem_of_getElem? (i := 833) (by decide +kernel), List.mem_of_getElem? (i := 834) (by decide +kernel)⟩
theorem lw_p30 : lw_okq (⟨"GloveReplyModel", "begin", "()V"⟩, 31) := ⟨⟨by decide +kernel, by decide +kernel⟩, List.mem_of_getElem? (i := 612) (by decide +kernel), List.mem_of_getElem? (i := 837) (by decide +kernel), List.mem_of_getElem? (i := 838) (by decide +kernel)⟩
theorem lw_p31 : lw_okq (⟨"GloveReplyModel", "goHand", "([III)I"⟩, 31) := ⟨⟨by decide +kernel, by decide +kernel⟩, List.mem_of_getElem? (i := 612) (by decide +kernel), List.mem_of_getElem? (i := 841) (by decide +kernel), List.mem_of_getElem? (i := 842) (by decide +kernel)⟩
def lw_privs_2 : List (MethodName × Nat) := [(⟨"GloveReplyModel", "readPart", "()Z"⟩, 31), (⟨"GloveReplyModel", "readPerson", "()Z"⟩, 31), (⟨"GloveReplyModel", "figure", "(II)I"⟩, 31), (⟨"GloveReplyModel", "readGlove", "()Z"⟩, 31), (⟨"GloveReplyModel", "isWorn", "([II)Z"⟩, 31), (⟨"GloveReplyModel", "noPerson", "(I)Z"⟩, 31), (⟨"GloveReplyModel", "wears", "([II)I"⟩, 31), (⟨"GloveReplyModel", "noGlove", "(I)Z"⟩, 31), (⟨"GloveReplyModel", "note", "()V"⟩, 31), (⟨"GloveReplyModel", "doesOn", "([III)I"⟩, 31), (⟨"GloveReplyModel", "goOff", "([II)V"⟩, 31), (⟨"GloveReplyModel", "keepDoing", "([III)V"⟩, 31), (⟨"GloveReplyModel", "noRow", "(II)Z"⟩, 31), (⟨"GloveReplyModel", "doesBy", "(III)I"⟩, 31), (⟨"GloveReplyModel", "begin", "()V"⟩, 31), (⟨"GloveReplyModel", "goHand", "([III)I"⟩, 31)]
theorem lw_r2 : ∀ q ∈ lw_privs_2, lw_okq q := List.forall_mem_cons.mpr ⟨lw_p16, List.forall_mem_cons.mpr ⟨lw_p17, List.forall_mem_cons.mpr ⟨lw_p18, List.forall_mem_cons.mpr ⟨lw_p19, List.forall_mem_cons.mpr ⟨lw_p20, List.forall_mem_cons.mpr ⟨lw_p21, List.forall_mem_cons.mpr ⟨lw_p22, List.forall_mem_cons.mpr ⟨lw_p23, List.forall_mem_cons.mpr ⟨lw_p24, List.forall_mem_cons.mpr ⟨lw_p25, List.forall_mem_cons.mpr ⟨lw_p26, List.forall_mem_cons.mpr ⟨lw_p27, List.forall_mem_cons.mpr ⟨lw_p28, List.forall_mem_cons.mpr ⟨lw_p29, List.forall_mem_cons.mpr ⟨lw_p30, List.forall_mem_cons.mpr ⟨lw_p31, fun _ h => absurd h List.not_mem_nil⟩⟩⟩⟩⟩⟩⟩⟩⟩⟩⟩⟩⟩⟩⟩⟩
theorem lw_p32 : lw_okq (⟨"GloveReplyModel", "findComes", "(II)V"⟩, 31) := ⟨⟨by decide +kernel, by decide +kernel⟩, List.mem_of_getElem? (i := 612) (by decide +kernel), List.mem_of_getElem? (i := 850) (by decide +kernel), List.mem_of_getElem? (i := 851) (by decide +kernel)⟩
theorem lw_p33 : lw_okq (⟨"GloveReplyModel", "findRounds", "(I)V"⟩, 31) := ⟨⟨by decide +kernel, by decide +kernel⟩, List.mem_of_getElem? (i := 612) (by decide +kernel), List.mem_of_getElem? (i := 858) (by decide +kernel), List.mem_of_getElem? (i := 859) (by decide +kernel)⟩
theorem lw_p34 : lw_okq (⟨"GloveReplyModel", "isRound", "(II)Z"⟩, 31) := ⟨⟨by decide +kernel, by decide +kernel⟩, List.mem_of_getElem? (i := 612) (by decide +kernel), List.mem_of_getElem? (i := 862) (by decide +kernel), List.mem_of_getElem? (i := 863) (by decide +kernel)⟩
theorem lw_p35 : lw_okq (⟨"GloveReplyModel", "leftOf", "(II)I"⟩, 31) := ⟨⟨by decide +kernel, by decide +kernel⟩, List.mem_of_getElem? (i := 612) (by decide +kernel), List.mem_of_getElem? (i := 875) (by decide +kernel), List.mem_of_getElem? (i := 876) (by decide +kernel)⟩
theorem lw_p36 : lw_okq (⟨"GloveReplyModel", "findWore", "(I)V"⟩, 31) := ⟨⟨by decide +kernel, by decide +kernel⟩, List.mem_of_getElem? (i := 612) (by decide +kernel), List.mem_of_getElem? (i := 903) (by decide +kernel), List.mem_of_getElem? (i := 904) (by decide +kernel)⟩
theorem lw_p37 : lw_okq (⟨"GloveReplyModel", "looks", "(II)Z"⟩, 31) := ⟨⟨by decide +kernel, by decide +kernel⟩, List.mem_of_getElem? (i := 612) (by decide +kernel), List.mem_of_getElem? (i := 907) (by decide +kernel), List.mem_of_getElem? (i := 908) (by decide +kernel)⟩
theorem lw_p38 : lw_okq (⟨"GloveReplyModel", "findBids", "(III)V"⟩, 31) := ⟨⟨by decide +kernel, by decide +kernel⟩, List.mem_of_getElem? (i := 612) (by decide +kernel), List.mem_of_getElem? (i := 915) (by decide +kernel), List.mem_of_getElem? (i := 916) (by decide +kernel)⟩
theorem lw_p39 : lw_okq (⟨"GloveReplyModel", "worthTo", "(II)I"⟩, 31) := ⟨⟨by decide +kernel, by decide +kernel⟩, List.mem_of_getElem? (i := 612) (by decide +kernel), List.mem_of_getElem? (i := 919) (by decide +kernel), List.mem_of_getElem? (i := 920) (by decide +kernel)⟩
def lw_privs_3 : List (MethodName × Nat) := [(⟨"GloveReplyModel", "findComes", "(II)V"⟩, 31), (⟨"GloveReplyModel", "findRounds", "(I)V"⟩, 31), (⟨"GloveReplyModel", "isRound", "(II)Z"⟩, 31), (⟨"GloveReplyModel", "leftOf", "(II)I"⟩, 31), (⟨"GloveReplyModel", "findWore", "(I)V"⟩, 31), (⟨"GloveReplyModel", "looks", "(II)Z"⟩, 31), (⟨"GloveReplyModel", "findBids", "(III)V"⟩, 31), (⟨"GloveReplyModel", "worthTo", "(II)I"⟩, 31)]
theorem lw_r3 : ∀ q ∈ lw_privs_3, lw_okq q := List.forall_mem_cons.mpr ⟨lw_p32, List.forall_mem_cons.mpr ⟨lw_p33, List.forall_mem_cons.mpr ⟨lw_p34, List.forall_mem_cons.mpr ⟨lw_p35, List.forall_mem_cons.mpr ⟨lw_p36, List.forall_mem_cons.mpr ⟨lw_p37, List.forall_mem_cons.mpr ⟨lw_p38, List.forall_mem_cons.mpr ⟨lw_p39, fun _ h => absurd h List.not_mem_nil⟩⟩⟩⟩⟩⟩⟩⟩
def lw_privs : List (MethodName × Nat) := lw_privs_1 ++ (lw_privs_2 ++ (lw_privs_3))
def lw_tbl : List Cond := k2_sels lw_privs ++ tables_1
theorem lw_privs_ok : ∀ q ∈ lw_privs, lw_okq q := by
  show ∀ q ∈ lw_privs_1 ++ (lw_privs_2 ++ (lw_privs_3)), lw_okq q
  exact List.forall_mem_append.mpr ⟨lw_r1, List.forall_mem_append.mpr ⟨lw_r2, lw_r3⟩⟩
end
section
/-! ===== BEGIN words of one list among another's, by their places ===== -/
theorem goodIn_r {big : List Cond} (ws : List Cond) (ps : List Nat) (hp : ws = ps.filterMap (fun i => big[i]?)) (h : ws.all goodWord = true) : GoodIn big ws := by
  intro w hw
  have h1 := List.all_eq_true.mp h w hw
  rw [hp] at hw
  obtain ⟨i, -, hi⟩ := List.mem_filterMap.mp hw
  have hm : w ∈ big := by first | exact List.mem_of_getElem? hi | exact List.getElem?_mem hi
  exact ⟨hm, good_of_word h1⟩
theorem goodIn_app {big a b : List Cond} (ha : GoodIn big a) (hb : GoodIn big b) : GoodIn big (a ++ b) := fun w h => (List.mem_append.mp h).elim (ha w) (hb w)
theorem goodIn_ca {big a b : List Cond} {c : Cond} (ha : GoodIn big (c :: a)) (hb : GoodIn big b) : GoodIn big (c :: (a ++ b)) := fun w h => (List.mem_cons.mp h).elim (fun e => ha w (List.mem_cons.mpr (Or.inl e))) (fun h => (List.mem_append.mp h).elim (fun h => ha w (List.mem_cons.mpr (Or.inr h))) (hb w))
theorem goodIn_sub {big ws : List Cond} (hm : ∀ w ∈ ws, w ∈ big) (h : ws.all goodWord = true) : GoodIn big ws := fun w hw => ⟨hm w hw, good_of_word (List.all_eq_true.mp h w hw)⟩
/-! ===== END ===== -/

/-! ===== BEGIN printed: names, fields, word lists, decode rows ===== -/
def RX0 : String := "GloveReply$Acts"
def TX0 : u_T := fun k => match k with
  | 0 => ("GloveReply$Acts", "ring", "[LGloveReply$Moment;", true)
  | 1 => ("GloveReply$Acts", "oldest", "I", false)
  | _ => ("GloveReply$Acts", "count", "I", false)
def tyX0 : Nat → FieldType := fun k => match k with
  | 0 => .array (.object "GloveReply$Moment")
  | 1 => .int
  | _ => .int
abbrev wsX00 : List Cond := u_ws RX0 TX0 3
theorem nmX0 : ∀ a, a < 3 → ∀ b, b < 3 → a ≠ b → (TX0 a).2.1 ≠ (TX0 b).2.1 := by decide +kernel
theorem tyX0_ok : ∀ k, k < 3 → parseFieldDescriptor (TX0 k).2.2.1 = some (tyX0 k) := by decide +kernel
abbrev cX0_init : ByteArray := prog_2_method_1_code
def yX0_init : MethodName := ⟨RX0, "<init>", "()V"⟩
abbrev cX0_size : ByteArray := prog_2_method_2_code
def yX0_size : MethodName := ⟨RX0, "size", "()I"⟩
abbrev cX0_clear : ByteArray := prog_2_method_3_code
def yX0_clear : MethodName := ⟨RX0, "clear", "()V"⟩
abbrev cX0_add : ByteArray := prog_2_method_4_code
def yX0_add : MethodName := ⟨RX0, "add", "(LGloveReply$Moment;)V"⟩
abbrev cX0_giveBackLast : ByteArray := prog_2_method_5_code
def yX0_giveBackLast : MethodName := ⟨RX0, "giveBackLast", "(LGloveReply$Moment;)V"⟩
abbrev cX0_placeAt : ByteArray := prog_2_method_6_code
def yX0_placeAt : MethodName := ⟨RX0, "placeAt", "(I)LGloveReply$Moment;"⟩
def RX1 : String := "GloveReply$Desk"
def TX1 : u_T := fun k => match k with
  | 0 => ("GloveReply$Desk", "own", "[I", true)
  | 1 => ("GloveReply$Desk", "dear", "[I", true)
  | 2 => ("GloveReply$Desk", "worth", "[I", true)
  | 3 => ("GloveReply$Desk", "room", "[I", true)
  | 4 => ("GloveReply$Desk", "kind", "[I", true)
  | 5 => ("GloveReply$Desk", "told", "[I", true)
  | 6 => ("GloveReply$Desk", "personCount", "I", false)
  | _ => ("GloveReply$Desk", "gloveCount", "I", false)
def tyX1 : Nat → FieldType := fun k => match k with
  | 0 => .array .int
  | 1 => .array .int
  | 2 => .array .int
  | 3 => .array .int
  | 4 => .array .int
  | 5 => .array .int
  | 6 => .int
  | _ => .int
abbrev wsX10 : List Cond := u_ws RX1 TX1 8
theorem nmX1 : ∀ a, a < 8 → ∀ b, b < 8 → a ≠ b → (TX1 a).2.1 ≠ (TX1 b).2.1 := by decide +kernel
theorem tyX1_ok : ∀ k, k < 8 → parseFieldDescriptor (TX1 k).2.2.1 = some (tyX1 k) := by decide +kernel
abbrev cX1_init : ByteArray := prog_3_method_1_code
def yX1_init : MethodName := ⟨RX1, "<init>", "()V"⟩
abbrev cX1_read : ByteArray := prog_3_method_2_code
def yX1_read : MethodName := ⟨RX1, "read", "(LGloveReply$Text;)V"⟩
abbrev cX1_addPerson : ByteArray := prog_3_method_3_code
def yX1_addPerson : MethodName := ⟨RX1, "addPerson", "(LGloveReply$Text;I)V"⟩
abbrev cX1_addGlove : ByteArray := prog_3_method_4_code
def yX1_addGlove : MethodName := ⟨RX1, "addGlove", "(LGloveReply$Text;I)V"⟩
abbrev cX1_people : ByteArray := prog_3_method_5_code
def yX1_people : MethodName := ⟨RX1, "people", "()I"⟩
abbrev cX1_gloves : ByteArray := prog_3_method_6_code
def yX1_gloves : MethodName := ⟨RX1, "gloves", "()I"⟩
abbrev cX1_hasPerson : ByteArray := prog_3_method_7_code
def yX1_hasPerson : MethodName := ⟨RX1, "hasPerson", "(I)Z"⟩
abbrev cX1_hasGlove : ByteArray := prog_3_method_8_code
def yX1_hasGlove : MethodName := ⟨RX1, "hasGlove", "(I)Z"⟩
abbrev cX1_ownOf : ByteArray := prog_3_method_9_code
def yX1_ownOf : MethodName := ⟨RX1, "ownOf", "(I)I"⟩
abbrev cX1_dearTo : ByteArray := prog_3_method_10_code
def yX1_dearTo : MethodName := ⟨RX1, "dearTo", "(I)I"⟩
abbrev cX1_worthTo : ByteArray := prog_3_method_11_code
def yX1_worthTo : MethodName := ⟨RX1, "worthTo", "(I)I"⟩
abbrev cX1_roomOf : ByteArray := prog_3_method_12_code
def yX1_roomOf : MethodName := ⟨RX1, "roomOf", "(I)I"⟩
abbrev cX1_kindOf : ByteArray := prog_3_method_13_code
def yX1_kindOf : MethodName := ⟨RX1, "kindOf", "(I)I"⟩
abbrev cX1_toldOf : ByteArray := prog_3_method_14_code
def yX1_toldOf : MethodName := ⟨RX1, "toldOf", "(I)I"⟩
abbrev cX1_isSomeonesOwn : ByteArray := prog_3_method_15_code
def yX1_isSomeonesOwn : MethodName := ⟨RX1, "isSomeonesOwn", "(I)Z"⟩
abbrev cX1_reply : ByteArray := prog_3_method_16_code
def yX1_reply : MethodName := ⟨RX1, "reply", "(III)I"⟩
abbrev cX1_afterHand : ByteArray := prog_3_method_17_code
def yX1_afterHand : MethodName := ⟨RX1, "afterHand", "(III)I"⟩
def RX2 : String := "GloveReply$Moment"
def TX2 : u_T := fun k => match k with
  | 0 => ("GloveReply$Moment", "kept", "[I", true)
  | 1 => ("GloveReply$Moment", "wearer", "[I", true)
  | 2 => ("GloveReply$Moment", "date", "I", false)
  | _ => ("GloveReply$Moment", "taken", "Z", false)
def tyX2 : Nat → FieldType := fun k => match k with
  | 0 => .array .int
  | 1 => .array .int
  | 2 => .int
  | _ => .boolean
abbrev wsX20 : List Cond := u_ws RX2 TX2 4
theorem nmX2 : ∀ a, a < 4 → ∀ b, b < 4 → a ≠ b → (TX2 a).2.1 ≠ (TX2 b).2.1 := by decide +kernel
theorem tyX2_ok : ∀ k, k < 4 → parseFieldDescriptor (TX2 k).2.2.1 = some (tyX2 k) := by decide +kernel
abbrev cX2_init : ByteArray := prog_4_method_1_code
def yX2_init : MethodName := ⟨RX2, "<init>", "()V"⟩
abbrev cX2_start : ByteArray := prog_4_method_2_code
def yX2_start : MethodName := ⟨RX2, "start", "(LGloveReply$Desk;)V"⟩
abbrev cX2_copy : ByteArray := prog_4_method_3_code
def yX2_copy : MethodName := ⟨RX2, "copy", "(LGloveReply$Moment;)V"⟩
abbrev cX2_isTaken : ByteArray := prog_4_method_4_code
def yX2_isTaken : MethodName := ⟨RX2, "isTaken", "()Z"⟩
abbrev cX2_release : ByteArray := prog_4_method_5_code
def yX2_release : MethodName := ⟨RX2, "release", "()V"⟩
abbrev cX2_today : ByteArray := prog_4_method_6_code
def yX2_today : MethodName := ⟨RX2, "today", "()I"⟩
abbrev cX2_nextDay : ByteArray := prog_4_method_7_code
def yX2_nextDay : MethodName := ⟨RX2, "nextDay", "()V"⟩
abbrev cX2_keptBy : ByteArray := prog_4_method_8_code
def yX2_keptBy : MethodName := ⟨RX2, "keptBy", "(I)I"⟩
abbrev cX2_setKept : ByteArray := prog_4_method_9_code
def yX2_setKept : MethodName := ⟨RX2, "setKept", "(II)V"⟩
abbrev cX2_wearerOf : ByteArray := prog_4_method_10_code
def yX2_wearerOf : MethodName := ⟨RX2, "wearerOf", "(I)I"⟩
abbrev cX2_putOn : ByteArray := prog_4_method_11_code
def yX2_putOn : MethodName := ⟨RX2, "putOn", "(II)V"⟩
abbrev cX2_isWorn : ByteArray := prog_4_method_12_code
def yX2_isWorn : MethodName := ⟨RX2, "isWorn", "(I)Z"⟩
abbrev cX2_gloveOn : ByteArray := prog_4_method_13_code
def yX2_gloveOn : MethodName := ⟨RX2, "gloveOn", "(I)I"⟩
abbrev cX2_wornBits : ByteArray := prog_4_method_14_code
def yX2_wornBits : MethodName := ⟨RX2, "wornBits", "()I"⟩
def RX3 : String := "GloveReply$Sightings"
def TX3 : u_T := fun k => match k with
  | 0 => ("GloveReply$Sightings", "gloves", "[I", true)
  | 1 => ("GloveReply$Sightings", "people", "[I", true)
  | 2 => ("GloveReply$Sightings", "doings", "[I", true)
  | _ => ("GloveReply$Sightings", "count", "I", false)
def tyX3 : Nat → FieldType := fun k => match k with
  | 0 => .array .int
  | 1 => .array .int
  | 2 => .array .int
  | _ => .int
abbrev wsX30 : List Cond := u_ws RX3 TX3 4
theorem nmX3 : ∀ a, a < 4 → ∀ b, b < 4 → a ≠ b → (TX3 a).2.1 ≠ (TX3 b).2.1 := by decide +kernel
theorem tyX3_ok : ∀ k, k < 4 → parseFieldDescriptor (TX3 k).2.2.1 = some (tyX3 k) := by decide +kernel
abbrev cX3_init : ByteArray := prog_5_method_1_code
def yX3_init : MethodName := ⟨RX3, "<init>", "()V"⟩
abbrev cX3_size : ByteArray := prog_5_method_2_code
def yX3_size : MethodName := ⟨RX3, "size", "()I"⟩
abbrev cX3_clear : ByteArray := prog_5_method_3_code
def yX3_clear : MethodName := ⟨RX3, "clear", "()V"⟩
abbrev cX3_add : ByteArray := prog_5_method_4_code
def yX3_add : MethodName := ⟨RX3, "add", "(III)V"⟩
abbrev cX3_personAt : ByteArray := prog_5_method_5_code
def yX3_personAt : MethodName := ⟨RX3, "personAt", "(I)I"⟩
abbrev cX3_doingAt : ByteArray := prog_5_method_6_code
def yX3_doingAt : MethodName := ⟨RX3, "doingAt", "(I)I"⟩
abbrev cX3_nextOf : ByteArray := prog_5_method_7_code
def yX3_nextOf : MethodName := ⟨RX3, "nextOf", "(ILGloveReply$Desk;I)I"⟩
def RX4 : String := "GloveReply$Tally"
def TX4 : u_T := fun k => match k with
  | 0 => ("GloveReply$Tally", "count", "I", false)
  | _ => ("GloveReply$Tally", "first", "I", false)
def tyX4 : Nat → FieldType := fun k => match k with
  | 0 => .int
  | _ => .int
abbrev wsX40 : List Cond := u_ws RX4 TX4 2
theorem nmX4 : ∀ a, a < 2 → ∀ b, b < 2 → a ≠ b → (TX4 a).2.1 ≠ (TX4 b).2.1 := by decide +kernel
theorem tyX4_ok : ∀ k, k < 2 → parseFieldDescriptor (TX4 k).2.2.1 = some (tyX4 k) := by decide +kernel
abbrev cX4_init : ByteArray := prog_6_method_1_code
def yX4_init : MethodName := ⟨RX4, "<init>", "()V"⟩
abbrev cX4_start : ByteArray := prog_6_method_2_code
def yX4_start : MethodName := ⟨RX4, "start", "()V"⟩
abbrev cX4_add : ByteArray := prog_6_method_3_code
def yX4_add : MethodName := ⟨RX4, "add", "(I)V"⟩
abbrev cX4_told : ByteArray := prog_6_method_4_code
def yX4_told : MethodName := ⟨RX4, "told", "(I)I"⟩
def RX5 : String := "GloveReply$Text"
def TX5 : u_T := fun k => match k with
  | 0 => ("GloveReply$Text", "letters", "[I", true)
  | _ => ("GloveReply$Text", "length", "I", false)
def tyX5 : Nat → FieldType := fun k => match k with
  | 0 => .array .int
  | _ => .int
abbrev wsX50 : List Cond := u_ws RX5 TX5 2
theorem nmX5 : ∀ a, a < 2 → ∀ b, b < 2 → a ≠ b → (TX5 a).2.1 ≠ (TX5 b).2.1 := by decide +kernel
theorem tyX5_ok : ∀ k, k < 2 → parseFieldDescriptor (TX5 k).2.2.1 = some (tyX5 k) := by decide +kernel
abbrev cX5_init : ByteArray := prog_7_method_1_code
def yX5_init : MethodName := ⟨RX5, "<init>", "()V"⟩
abbrev cX5_size : ByteArray := prog_7_method_2_code
def yX5_size : MethodName := ⟨RX5, "size", "()I"⟩
abbrev cX5_add : ByteArray := prog_7_method_3_code
def yX5_add : MethodName := ⟨RX5, "add", "(I)V"⟩
abbrev cX5_clear : ByteArray := prog_7_method_4_code
def yX5_clear : MethodName := ⟨RX5, "clear", "()V"⟩
abbrev cX5_firstFault : ByteArray := prog_7_method_5_code
def yX5_firstFault : MethodName := ⟨RX5, "firstFault", "()I"⟩
abbrev cX5_endsAPart : ByteArray := prog_7_method_6_code
def yX5_endsAPart : MethodName := ⟨RX5, "endsAPart", "()Z"⟩
abbrev cX5_fits : ByteArray := prog_7_method_7_code
def yX5_fits : MethodName := ⟨RX5, "fits", "(I)Z"⟩
abbrev cX5_partsAhead : ByteArray := prog_7_method_8_code
def yX5_partsAhead : MethodName := ⟨RX5, "partsAhead", "(II)I"⟩
abbrev cX5_isPerson : ByteArray := prog_7_method_9_code
def yX5_isPerson : MethodName := ⟨RX5, "isPerson", "(I)Z"⟩
abbrev cX5_figureAt : ByteArray := prog_7_method_10_code
def yX5_figureAt : MethodName := ⟨RX5, "figureAt", "(I)I"⟩
def RX6 : String := "GloveReply"
def TX6 : u_T := fun k => match k with
  | 0 => ("GloveReply", "theText", "LGloveReply$Text;", true)
  | 1 => ("GloveReply", "theDesk", "LGloveReply$Desk;", true)
  | 2 => ("GloveReply", "now", "LGloveReply$Moment;", true)
  | 3 => ("GloveReply", "trial", "LGloveReply$Moment;", true)
  | 4 => ("GloveReply", "acts", "LGloveReply$Acts;", true)
  | 5 => ("GloveReply", "sightings", "LGloveReply$Sightings;", true)
  | 6 => ("GloveReply", "tally", "LGloveReply$Tally;", true)
  | 7 => ("GloveReply", "slots", "[LGloveReply$Moment;", true)
  | _ => ("GloveReply", "theSeed", "J", false)
def tyX6 : Nat → FieldType := fun k => match k with
  | 0 => .object "GloveReply$Text"
  | 1 => .object "GloveReply$Desk"
  | 2 => .object "GloveReply$Moment"
  | 3 => .object "GloveReply$Moment"
  | 4 => .object "GloveReply$Acts"
  | 5 => .object "GloveReply$Sightings"
  | 6 => .object "GloveReply$Tally"
  | 7 => .array (.object "GloveReply$Moment")
  | _ => .long
abbrev wsX60 : List Cond := u_ws RX6 TX6 9
theorem nmX6 : ∀ a, a < 9 → ∀ b, b < 9 → a ≠ b → (TX6 a).2.1 ≠ (TX6 b).2.1 := by decide +kernel
theorem tyX6_ok : ∀ k, k < 9 → parseFieldDescriptor (TX6 k).2.2.1 = some (tyX6 k) := by decide +kernel
abbrev cX6_init : ByteArray := prog_1_method_1_code
def yX6_init : MethodName := ⟨RX6, "<init>", "()V"⟩
abbrev cX6_write : ByteArray := prog_1_method_2_code
def yX6_write : MethodName := ⟨RX6, "write", "(I)I"⟩
abbrev cX6_wipe : ByteArray := prog_1_method_3_code
def yX6_wipe : MethodName := ⟨RX6, "wipe", "()I"⟩
abbrev cX6_fault : ByteArray := prog_1_method_4_code
def yX6_fault : MethodName := ⟨RX6, "fault", "()I"⟩
abbrev cX6_desk : ByteArray := prog_1_method_5_code
def yX6_desk : MethodName := ⟨RX6, "desk", "()I"⟩
abbrev cX6_about : ByteArray := prog_1_method_6_code
def yX6_about : MethodName := ⟨RX6, "about", "(I)I"⟩
abbrev cX6_person : ByteArray := prog_1_method_7_code
def yX6_person : MethodName := ⟨RX6, "person", "(II)I"⟩
abbrev cX6_glove : ByteArray := prog_1_method_8_code
def yX6_glove : MethodName := ⟨RX6, "glove", "(II)I"⟩
abbrev cX6_wear : ByteArray := prog_1_method_9_code
def yX6_wear : MethodName := ⟨RX6, "wear", "(II)I"⟩
abbrev cX6_takeOff : ByteArray := prog_1_method_10_code
def yX6_takeOff : MethodName := ⟨RX6, "takeOff", "(I)I"⟩
abbrev cX6_wash : ByteArray := prog_1_method_11_code
def yX6_wash : MethodName := ⟨RX6, "wash", "(I)I"⟩
abbrev cX6_day : ByteArray := prog_1_method_12_code
def yX6_day : MethodName := ⟨RX6, "day", "()I"⟩
abbrev cX6_undo : ByteArray := prog_1_method_13_code
def yX6_undo : MethodName := ⟨RX6, "undo", "()I"⟩
abbrev cX6_does : ByteArray := prog_1_method_14_code
def yX6_does : MethodName := ⟨RX6, "does", "(III)I"⟩
abbrev cX6_comes : ByteArray := prog_1_method_15_code
def yX6_comes : MethodName := ⟨RX6, "comes", "(III)I"⟩
abbrev cX6_rounds : ByteArray := prog_1_method_16_code
def yX6_rounds : MethodName := ⟨RX6, "rounds", "(II)I"⟩
abbrev cX6_givesAway : ByteArray := prog_1_method_17_code
def yX6_givesAway : MethodName := ⟨RX6, "givesAway", "(I)I"⟩
abbrev cX6_leftBy : ByteArray := prog_1_method_18_code
def yX6_leftBy : MethodName := ⟨RX6, "leftBy", "(II)I"⟩
abbrev cX6_washes : ByteArray := prog_1_method_19_code
def yX6_washes : MethodName := ⟨RX6, "washes", "(II)I"⟩
abbrev cX6_both : ByteArray := prog_1_method_20_code
def yX6_both : MethodName := ⟨RX6, "both", "(II)I"⟩
abbrev cX6_either : ByteArray := prog_1_method_21_code
def yX6_either : MethodName := ⟨RX6, "either", "(II)I"⟩
abbrev cX6_see : ByteArray := prog_1_method_22_code
def yX6_see : MethodName := ⟨RX6, "see", "(III)I"⟩
abbrev cX6_unsee : ByteArray := prog_1_method_23_code
def yX6_unsee : MethodName := ⟨RX6, "unsee", "()I"⟩
abbrev cX6_wore : ByteArray := prog_1_method_24_code
def yX6_wore : MethodName := ⟨RX6, "wore", "(II)I"⟩
abbrev cX6_bids : ByteArray := prog_1_method_25_code
def yX6_bids : MethodName := ⟨RX6, "bids", "(IIII)I"⟩
abbrev cX6_lost : ByteArray := prog_1_method_26_code
def yX6_lost : MethodName := ⟨RX6, "lost", "(IIIIZ)I"⟩
abbrev cX6_seed : ByteArray := prog_1_method_27_code
def yX6_seed : MethodName := ⟨RX6, "seed", "(J)J"⟩
abbrev cX6_weeks : ByteArray := prog_1_method_28_code
def yX6_weeks : MethodName := ⟨RX6, "weeks", "(I)I"⟩
abbrev cX6_keep : ByteArray := prog_1_method_29_code
def yX6_keep : MethodName := ⟨RX6, "keep", "(I)I"⟩
abbrev cX6_again : ByteArray := prog_1_method_30_code
def yX6_again : MethodName := ⟨RX6, "again", "(I)I"⟩
abbrev cX6_slotAt : ByteArray := prog_1_method_31_code
def yX6_slotAt : MethodName := ⟨RX6, "slotAt", "(I)LGloveReply$Moment;"⟩
abbrev cX6_forgetSlots : ByteArray := prog_1_method_32_code
def yX6_forgetSlots : MethodName := ⟨RX6, "forgetSlots", "()V"⟩
abbrev cX6_layDown : ByteArray := prog_1_method_33_code
def yX6_layDown : MethodName := ⟨RX6, "layDown", "(I)V"⟩
abbrev cX6_lastAfterWashes : ByteArray := prog_1_method_34_code
def yX6_lastAfterWashes : MethodName := ⟨RX6, "lastAfterWashes", "(II)I"⟩
abbrev cX6_secretOf : ByteArray := prog_1_method_35_code
def yX6_secretOf : MethodName := ⟨RX6, "secretOf", "(II)I"⟩
abbrev cX6_isRow : ByteArray := prog_1_method_36_code
def yX6_isRow : MethodName := ⟨RX6, "isRow", "(II)Z"⟩
abbrev cX6_replyToRow : ByteArray := prog_1_method_37_code
def yX6_replyToRow : MethodName := ⟨RX6, "replyToRow", "(III)I"⟩
abbrev cX6_worthOn : ByteArray := prog_1_method_38_code
def yX6_worthOn : MethodName := ⟨RX6, "worthOn", "(II)I"⟩
abbrev cX6_pleasesOnTrial : ByteArray := prog_1_method_39_code
def yX6_pleasesOnTrial : MethodName := ⟨RX6, "pleasesOnTrial", "(II)Z"⟩
abbrev cX6_firstRow : ByteArray := prog_1_method_40_code
def yX6_firstRow : MethodName := ⟨RX6, "firstRow", "(LGloveReply$Desk;IIIII)I"⟩
abbrev cX6_tallyRounds : ByteArray := prog_1_method_41_code
def yX6_tallyRounds : MethodName := ⟨RX6, "tallyRounds", "(LGloveReply$Desk;LGloveReply$Tally;IIIII)V"⟩
abbrev cX6_tallyWearers : ByteArray := prog_1_method_42_code
def yX6_tallyWearers : MethodName := ⟨RX6, "tallyWearers", "(LGloveReply$Desk;LGloveReply$Sightings;LGloveReply$Tally;IIII)V"⟩
abbrev cX6_waysToDo : ByteArray := prog_1_method_43_code
def yX6_waysToDo : MethodName := ⟨RX6, "waysToDo", "(LGloveReply$Desk;IIIII)I"⟩
abbrev cX6_isAtRest : ByteArray := prog_1_method_44_code
def yX6_isAtRest : MethodName := ⟨RX6, "isAtRest", "(IIII)Z"⟩
abbrev cX6_gainOfFirst : ByteArray := prog_1_method_45_code
def yX6_gainOfFirst : MethodName := ⟨RX6, "gainOfFirst", "(III)I"⟩
abbrev cX6_gainOfOther : ByteArray := prog_1_method_46_code
def yX6_gainOfOther : MethodName := ⟨RX6, "gainOfOther", "(III)I"⟩
abbrev cX6_within : ByteArray := prog_1_method_47_code
def yX6_within : MethodName := ⟨RX6, "within", "(III)Z"⟩
abbrev cX6_isChoice : ByteArray := prog_1_method_48_code
def yX6_isChoice : MethodName := ⟨RX6, "isChoice", "(I)Z"⟩
abbrev cX6_partInLeastTerms : ByteArray := prog_1_method_49_code
def yX6_partInLeastTerms : MethodName := ⟨RX6, "partInLeastTerms", "(IIZ)I"⟩
abbrev cX6_turned : ByteArray := prog_1_method_50_code
def yX6_turned : MethodName := ⟨RX6, "turned", "(II)I"⟩
abbrev cX6_hasFigure : ByteArray := prog_1_method_51_code
def yX6_hasFigure : MethodName := ⟨RX6, "hasFigure", "(II)Z"⟩
abbrev cX6_figuresIn : ByteArray := prog_1_method_52_code
def yX6_figuresIn : MethodName := ⟨RX6, "figuresIn", "(I)I"⟩
abbrev cX6_firstOf : ByteArray := prog_1_method_53_code
def yX6_firstOf : MethodName := ⟨RX6, "firstOf", "(I)I"⟩
abbrev cX6_lastOf : ByteArray := prog_1_method_54_code
def yX6_lastOf : MethodName := ⟨RX6, "lastOf", "(I)I"⟩
abbrev cX6_withoutLast : ByteArray := prog_1_method_55_code
def yX6_withoutLast : MethodName := ⟨RX6, "withoutLast", "(I)I"⟩
abbrev cX6_withBehind : ByteArray := prog_1_method_56_code
def yX6_withBehind : MethodName := ⟨RX6, "withBehind", "(III)I"⟩
abbrev cX6_at : ByteArray := prog_1_method_57_code
def yX6_at : MethodName := ⟨RX6, "at", "([II)I"⟩
abbrev cX6_put : ByteArray := prog_1_method_58_code
def yX6_put : MethodName := ⟨RX6, "put", "([III)V"⟩
abbrev cX6_copyRow : ByteArray := prog_1_method_59_code
def yX6_copyRow : MethodName := ⟨RX6, "copyRow", "([I[I)V"⟩
def RX7 : String := "GloveReplyModel"
def TX7 : u_T := fun k => match k with
  | 0 => ("GloveReplyModel", "thrown", "I", false)
  | 1 => ("GloveReplyModel", "text", "[I", true)
  | 2 => ("GloveReplyModel", "textSize", "I", false)
  | 3 => ("GloveReplyModel", "place", "I", false)
  | 4 => ("GloveReplyModel", "people", "I", false)
  | 5 => ("GloveReplyModel", "gloves", "I", false)
  | 6 => ("GloveReplyModel", "person", "[I", true)
  | 7 => ("GloveReplyModel", "glove", "[I", true)
  | 8 => ("GloveReplyModel", "readPeople", "I", false)
  | 9 => ("GloveReplyModel", "readGloves", "I", false)
  | 10 => ("GloveReplyModel", "readPerson", "[I", true)
  | 11 => ("GloveReplyModel", "readGlove", "[I", true)
  | 12 => ("GloveReplyModel", "page", "[I", true)
  | 13 => ("GloveReplyModel", "trial", "[I", true)
  | 14 => ("GloveReplyModel", "book", "[I", true)
  | 15 => ("GloveReplyModel", "acts", "I", false)
  | 16 => ("GloveReplyModel", "kept", "[I", true)
  | 17 => ("GloveReplyModel", "isKept", "[Z", true)
  | 18 => ("GloveReplyModel", "seen", "I", false)
  | 19 => ("GloveReplyModel", "seenGlove", "[I", true)
  | 20 => ("GloveReplyModel", "seenPerson", "[I", true)
  | 21 => ("GloveReplyModel", "seenDoing", "[I", true)
  | 22 => ("GloveReplyModel", "seed", "J", false)
  | 23 => ("GloveReplyModel", "comesMany", "I", false)
  | 24 => ("GloveReplyModel", "comesRow", "I", false)
  | 25 => ("GloveReplyModel", "roundMany", "I", false)
  | 26 => ("GloveReplyModel", "roundFirst", "I", false)
  | 27 => ("GloveReplyModel", "woreMany", "I", false)
  | 28 => ("GloveReplyModel", "woreFirst", "I", false)
  | 29 => ("GloveReplyModel", "bidMany", "I", false)
  | _ => ("GloveReplyModel", "bidFirst", "I", false)
def tyX7 : Nat → FieldType := fun k => match k with
  | 0 => .int
  | 1 => .array .int
  | 2 => .int
  | 3 => .int
  | 4 => .int
  | 5 => .int
  | 6 => .array .int
  | 7 => .array .int
  | 8 => .int
  | 9 => .int
  | 10 => .array .int
  | 11 => .array .int
  | 12 => .array .int
  | 13 => .array .int
  | 14 => .array .int
  | 15 => .int
  | 16 => .array .int
  | 17 => .array .boolean
  | 18 => .int
  | 19 => .array .int
  | 20 => .array .int
  | 21 => .array .int
  | 22 => .long
  | 23 => .int
  | 24 => .int
  | 25 => .int
  | 26 => .int
  | 27 => .int
  | 28 => .int
  | 29 => .int
  | _ => .int
abbrev wsX70 : List Cond := u_ws RX7 TX7 31
theorem nmX7 : ∀ a, a < 31 → ∀ b, b < 31 → a ≠ b → (TX7 a).2.1 ≠ (TX7 b).2.1 := by decide +kernel
theorem tyX7_ok : ∀ k, k < 31 → parseFieldDescriptor (TX7 k).2.2.1 = some (tyX7 k) := by decide +kernel
abbrev cX7_init : ByteArray := prog_9_method_1_code
def yX7_init : MethodName := ⟨RX7, "<init>", "()V"⟩
abbrev cX7_in : ByteArray := prog_9_method_3_code
def yX7_in : MethodName := ⟨RX7, "in", "(JJJ)Z"⟩
abbrev cX7_noPerson : ByteArray := prog_9_method_4_code
def yX7_noPerson : MethodName := ⟨RX7, "noPerson", "(I)Z"⟩
abbrev cX7_noGlove : ByteArray := prog_9_method_5_code
def yX7_noGlove : MethodName := ⟨RX7, "noGlove", "(I)Z"⟩
abbrev cX7_write : ByteArray := prog_9_method_6_code
def yX7_write : MethodName := ⟨RX7, "write", "(I)I"⟩
abbrev cX7_wipe : ByteArray := prog_9_method_7_code
def yX7_wipe : MethodName := ⟨RX7, "wipe", "()I"⟩
abbrev cX7_figure : ByteArray := prog_9_method_8_code
def yX7_figure : MethodName := ⟨RX7, "figure", "(II)I"⟩
abbrev cX7_readPerson : ByteArray := prog_9_method_9_code
def yX7_readPerson : MethodName := ⟨RX7, "readPerson", "()Z"⟩
abbrev cX7_readGlove : ByteArray := prog_9_method_10_code
def yX7_readGlove : MethodName := ⟨RX7, "readGlove", "()Z"⟩
abbrev cX7_readPart : ByteArray := prog_9_method_11_code
def yX7_readPart : MethodName := ⟨RX7, "readPart", "()Z"⟩
abbrev cX7_readDesk : ByteArray := prog_9_method_12_code
def yX7_readDesk : MethodName := ⟨RX7, "readDesk", "()I"⟩
abbrev cX7_fault : ByteArray := prog_9_method_13_code
def yX7_fault : MethodName := ⟨RX7, "fault", "()I"⟩
abbrev cX7_desk : ByteArray := prog_9_method_14_code
def yX7_desk : MethodName := ⟨RX7, "desk", "()I"⟩
abbrev cX7_isWorn : ByteArray := prog_9_method_15_code
def yX7_isWorn : MethodName := ⟨RX7, "isWorn", "([II)Z"⟩
abbrev cX7_wears : ByteArray := prog_9_method_16_code
def yX7_wears : MethodName := ⟨RX7, "wears", "([II)I"⟩
abbrev cX7_lastOf : ByteArray := prog_9_method_17_code
def yX7_lastOf : MethodName := ⟨RX7, "lastOf", "([II)I"⟩
abbrev cX7_doesOn : ByteArray := prog_9_method_18_code
def yX7_doesOn : MethodName := ⟨RX7, "doesOn", "([III)I"⟩
abbrev cX7_keepDoing : ByteArray := prog_9_method_19_code
def yX7_keepDoing : MethodName := ⟨RX7, "keepDoing", "([III)V"⟩
abbrev cX7_goOff : ByteArray := prog_9_method_20_code
def yX7_goOff : MethodName := ⟨RX7, "goOff", "([II)V"⟩
abbrev cX7_goHand : ByteArray := prog_9_method_21_code
def yX7_goHand : MethodName := ⟨RX7, "goHand", "([III)I"⟩
abbrev cX7_about : ByteArray := prog_9_method_22_code
def yX7_about : MethodName := ⟨RX7, "about", "(I)I"⟩
abbrev cX7_person : ByteArray := prog_9_method_23_code
def yX7_person : MethodName := ⟨RX7, "person", "(II)I"⟩
abbrev cX7_glove : ByteArray := prog_9_method_24_code
def yX7_glove : MethodName := ⟨RX7, "glove", "(II)I"⟩
abbrev cX7_note : ByteArray := prog_9_method_25_code
def yX7_note : MethodName := ⟨RX7, "note", "()V"⟩
abbrev cX7_wear : ByteArray := prog_9_method_26_code
def yX7_wear : MethodName := ⟨RX7, "wear", "(II)I"⟩
abbrev cX7_takeOff : ByteArray := prog_9_method_27_code
def yX7_takeOff : MethodName := ⟨RX7, "takeOff", "(I)I"⟩
abbrev cX7_wash : ByteArray := prog_9_method_28_code
def yX7_wash : MethodName := ⟨RX7, "wash", "(I)I"⟩
abbrev cX7_day : ByteArray := prog_9_method_29_code
def yX7_day : MethodName := ⟨RX7, "day", "()I"⟩
abbrev cX7_undo : ByteArray := prog_9_method_30_code
def yX7_undo : MethodName := ⟨RX7, "undo", "()I"⟩
abbrev cX7_begin : ByteArray := prog_9_method_31_code
def yX7_begin : MethodName := ⟨RX7, "begin", "()V"⟩
abbrev cX7_power : ByteArray := prog_9_method_32_code
def yX7_power : MethodName := ⟨RX7, "power", "(II)I"⟩
abbrev cX7_doesBy : ByteArray := prog_9_method_33_code
def yX7_doesBy : MethodName := ⟨RX7, "doesBy", "(III)I"⟩
abbrev cX7_noRow : ByteArray := prog_9_method_34_code
def yX7_noRow : MethodName := ⟨RX7, "noRow", "(II)Z"⟩
abbrev cX7_does : ByteArray := prog_9_method_35_code
def yX7_does : MethodName := ⟨RX7, "does", "(III)I"⟩
abbrev cX7_findComes : ByteArray := prog_9_method_36_code
def yX7_findComes : MethodName := ⟨RX7, "findComes", "(II)V"⟩
abbrev cX7_comes : ByteArray := prog_9_method_37_code
def yX7_comes : MethodName := ⟨RX7, "comes", "(III)I"⟩
abbrev cX7_isRound : ByteArray := prog_9_method_38_code
def yX7_isRound : MethodName := ⟨RX7, "isRound", "(II)Z"⟩
abbrev cX7_findRounds : ByteArray := prog_9_method_39_code
def yX7_findRounds : MethodName := ⟨RX7, "findRounds", "(I)V"⟩
abbrev cX7_rounds : ByteArray := prog_9_method_40_code
def yX7_rounds : MethodName := ⟨RX7, "rounds", "(II)I"⟩
abbrev cX7_givesAway : ByteArray := prog_9_method_41_code
def yX7_givesAway : MethodName := ⟨RX7, "givesAway", "(I)I"⟩
abbrev cX7_leftOf : ByteArray := prog_9_method_42_code
def yX7_leftOf : MethodName := ⟨RX7, "leftOf", "(II)I"⟩
abbrev cX7_leftBy : ByteArray := prog_9_method_43_code
def yX7_leftBy : MethodName := ⟨RX7, "leftBy", "(II)I"⟩
abbrev cX7_washes : ByteArray := prog_9_method_44_code
def yX7_washes : MethodName := ⟨RX7, "washes", "(II)I"⟩
abbrev cX7_both : ByteArray := prog_9_method_45_code
def yX7_both : MethodName := ⟨RX7, "both", "(II)I"⟩
abbrev cX7_either : ByteArray := prog_9_method_46_code
def yX7_either : MethodName := ⟨RX7, "either", "(II)I"⟩
abbrev cX7_see : ByteArray := prog_9_method_47_code
def yX7_see : MethodName := ⟨RX7, "see", "(III)I"⟩
abbrev cX7_unsee : ByteArray := prog_9_method_48_code
def yX7_unsee : MethodName := ⟨RX7, "unsee", "()I"⟩
abbrev cX7_looks : ByteArray := prog_9_method_49_code
def yX7_looks : MethodName := ⟨RX7, "looks", "(II)Z"⟩
abbrev cX7_findWore : ByteArray := prog_9_method_50_code
def yX7_findWore : MethodName := ⟨RX7, "findWore", "(I)V"⟩
abbrev cX7_wore : ByteArray := prog_9_method_51_code
def yX7_wore : MethodName := ⟨RX7, "wore", "(II)I"⟩
abbrev cX7_worthTo : ByteArray := prog_9_method_52_code
def yX7_worthTo : MethodName := ⟨RX7, "worthTo", "(II)I"⟩
abbrev cX7_findBids : ByteArray := prog_9_method_53_code
def yX7_findBids : MethodName := ⟨RX7, "findBids", "(III)V"⟩
abbrev cX7_bids : ByteArray := prog_9_method_54_code
def yX7_bids : MethodName := ⟨RX7, "bids", "(IIII)I"⟩
abbrev cX7_divisor : ByteArray := prog_9_method_55_code
def yX7_divisor : MethodName := ⟨RX7, "divisor", "(II)I"⟩
abbrev cX7_lost : ByteArray := prog_9_method_56_code
def yX7_lost : MethodName := ⟨RX7, "lost", "(IIIIZ)I"⟩
abbrev cX7_seed : ByteArray := prog_9_method_57_code
def yX7_seed : MethodName := ⟨RX7, "seed", "(J)J"⟩
abbrev cX7_weeks : ByteArray := prog_9_method_58_code
def yX7_weeks : MethodName := ⟨RX7, "weeks", "(I)I"⟩
abbrev cX7_keep : ByteArray := prog_9_method_59_code
def yX7_keep : MethodName := ⟨RX7, "keep", "(I)I"⟩
abbrev cX7_again : ByteArray := prog_9_method_60_code
def yX7_again : MethodName := ⟨RX7, "again", "(I)I"⟩
def RL : String := "GloveReplyLaw"
abbrev cL_law : ByteArray := code
def yL_law : MethodName := ⟨RL, "law", "([I)Z"⟩
def wsX2_init : List Cond := .code yX2_init cX2_init 2 none :: ([.methodLink RX2 3 objectInit, .instanceMethod objectInit, .code objectInit ⟨#[0xb1]⟩ 1 none, .arrayClass .int, .fieldLink RX2 9 "GloveReply$Moment" "kept" "[I", .fieldLink RX2 15 "GloveReply$Moment" "wearer" "[I", .fieldLink RX2 18 "GloveReply$Moment" "date" "I", .fieldLink RX2 22 "GloveReply$Moment" "taken" "Z"] ++ wsX20)
def wsX0_init : List Cond := .code yX0_init cX0_init 2 none :: ([.methodLink RX0 3 objectInit, .instanceMethod objectInit, .code objectInit ⟨#[0xb1]⟩ 1 none, .classLink RX0 9 RX2, .fieldLink RX0 11 "GloveReply$Acts" "ring" "[LGloveReply$Moment;", .instantiable RX2 4, .initialized RX2, .fieldLink RX0 18 "GloveReply$Acts" "oldest" "I", .fieldLink RX0 22 "GloveReply$Acts" "count" "I", .methodLink RX0 17 yX2_init, .instanceMethod yX2_init, .code yX2_init cX2_init 2 none, .methodLink RX2 3 objectInit, .arrayClass .int, .fieldLink RX2 9 "GloveReply$Moment" "kept" "[I", .fieldLink RX2 15 "GloveReply$Moment" "wearer" "[I", .fieldLink RX2 18 "GloveReply$Moment" "date" "I", .fieldLink RX2 22 "GloveReply$Moment" "taken" "Z"] ++ wsX00 ++ wsX20)
def wsX0_size : List Cond := .code yX0_size cX0_size 1 (some .int) :: ([.fieldLink RX0 22 "GloveReply$Acts" "count" "I"] ++ wsX00)
def wsX0_clear : List Cond := .code yX0_clear cX0_clear 1 none :: ([.fieldLink RX0 22 "GloveReply$Acts" "count" "I"] ++ wsX00)
def wsX0_placeAt : List Cond := .code yX0_placeAt cX0_placeAt 3 (some (.object "GloveReply$Moment")) :: ([.fieldLink RX0 18 "GloveReply$Acts" "oldest" "I", .fieldLink RX0 11 "GloveReply$Acts" "ring" "[LGloveReply$Moment;"] ++ wsX00)
def wsX6_copyRow : List Cond := .code yX6_copyRow cX6_copyRow 3 none :: ([])
def wsX2_copy : List Cond := .code yX2_copy cX2_copy 2 none :: ([.fieldLink RX2 9 "GloveReply$Moment" "kept" "[I", .fieldLink RX2 15 "GloveReply$Moment" "wearer" "[I", .fieldLink RX2 18 "GloveReply$Moment" "date" "I", .fieldLink RX2 22 "GloveReply$Moment" "taken" "Z", .static yX6_copyRow, .initialized RX6, .code yX6_copyRow cX6_copyRow 3 none] ++ wsX20)
def wsX0_add : List Cond := .code yX0_add cX0_add 3 none :: ([.fieldLink RX0 22 "GloveReply$Acts" "count" "I", .fieldLink RX0 18 "GloveReply$Acts" "oldest" "I", .methodLink RX0 25 yX0_placeAt, .instanceMethod yX0_placeAt, .selects RX0 yX0_placeAt yX0_placeAt, .initialized RX0, .code yX0_placeAt cX0_placeAt 3 (some (.object "GloveReply$Moment")), .fieldLink RX0 11 "GloveReply$Acts" "ring" "[LGloveReply$Moment;", .methodLink RX0 29 yX2_copy, .instanceMethod yX2_copy, .selects RX2 yX2_copy yX2_copy, .initialized RX2, .code yX2_copy cX2_copy 2 none, .fieldLink RX2 9 "GloveReply$Moment" "kept" "[I", .fieldLink RX2 15 "GloveReply$Moment" "wearer" "[I", .fieldLink RX2 18 "GloveReply$Moment" "date" "I", .fieldLink RX2 22 "GloveReply$Moment" "taken" "Z", .static yX6_copyRow, .initialized RX6, .code yX6_copyRow cX6_copyRow 3 none] ++ wsX00 ++ wsX20)
def wsX0_giveBackLast : List Cond := .code yX0_giveBackLast cX0_giveBackLast 3 none :: ([.fieldLink RX0 22 "GloveReply$Acts" "count" "I", .methodLink RX0 25 yX0_placeAt, .instanceMethod yX0_placeAt, .selects RX0 yX0_placeAt yX0_placeAt, .initialized RX0, .code yX0_placeAt cX0_placeAt 3 (some (.object "GloveReply$Moment")), .fieldLink RX0 18 "GloveReply$Acts" "oldest" "I", .fieldLink RX0 11 "GloveReply$Acts" "ring" "[LGloveReply$Moment;", .methodLink RX0 29 yX2_copy, .instanceMethod yX2_copy, .selects RX2 yX2_copy yX2_copy, .initialized RX2, .code yX2_copy cX2_copy 2 none, .fieldLink RX2 9 "GloveReply$Moment" "kept" "[I", .fieldLink RX2 15 "GloveReply$Moment" "wearer" "[I", .fieldLink RX2 18 "GloveReply$Moment" "date" "I", .fieldLink RX2 22 "GloveReply$Moment" "taken" "Z", .static yX6_copyRow, .initialized RX6, .code yX6_copyRow cX6_copyRow 3 none] ++ wsX00 ++ wsX20)
def wsX1_init : List Cond := .code yX1_init cX1_init 1 none :: ([.methodLink RX1 3 objectInit, .instanceMethod objectInit, .code objectInit ⟨#[0xb1]⟩ 1 none, .arrayClass .int, .fieldLink RX1 9 "GloveReply$Desk" "own" "[I", .fieldLink RX1 15 "GloveReply$Desk" "dear" "[I", .fieldLink RX1 18 "GloveReply$Desk" "worth" "[I", .fieldLink RX1 21 "GloveReply$Desk" "room" "[I", .fieldLink RX1 24 "GloveReply$Desk" "kind" "[I", .fieldLink RX1 27 "GloveReply$Desk" "told" "[I", .fieldLink RX1 30 "GloveReply$Desk" "personCount" "I", .fieldLink RX1 34 "GloveReply$Desk" "gloveCount" "I"] ++ wsX10)
def wsX5_size : List Cond := .code yX5_size cX5_size 1 (some .int) :: ([.fieldLink RX5 15 "GloveReply$Text" "length" "I"] ++ wsX50)
def wsX6_at : List Cond := .code yX6_at cX6_at 2 (some .int) :: ([])
def wsX5_isPerson : List Cond := .code yX5_isPerson cX5_isPerson 2 (some .boolean) :: ([.fieldLink RX5 9 "GloveReply$Text" "letters" "[I", .static yX6_at, .initialized RX6, .code yX6_at cX6_at 2 (some .int)] ++ wsX50)
def wsX5_figureAt : List Cond := .code yX5_figureAt cX5_figureAt 2 (some .int) :: ([.fieldLink RX5 9 "GloveReply$Text" "letters" "[I", .static yX6_at, .initialized RX6, .code yX6_at cX6_at 2 (some .int)] ++ wsX50)
def wsX6_put : List Cond := .code yX6_put cX6_put 3 none :: ([])
def wsX1_addPerson : List Cond := .code yX1_addPerson cX1_addPerson 3 none :: ([.fieldLink RX1 30 "GloveReply$Desk" "personCount" "I", .fieldLink RX1 9 "GloveReply$Desk" "own" "[I", .fieldLink RX1 15 "GloveReply$Desk" "dear" "[I", .fieldLink RX1 18 "GloveReply$Desk" "worth" "[I", .methodLink RX1 54 yX5_figureAt, .instanceMethod yX5_figureAt, .selects RX5 yX5_figureAt yX5_figureAt, .initialized RX5, .code yX5_figureAt cX5_figureAt 2 (some .int), .fieldLink RX5 9 "GloveReply$Text" "letters" "[I", .static yX6_at, .initialized RX6, .code yX6_at cX6_at 2 (some .int), .static yX6_put, .code yX6_put cX6_put 3 none] ++ wsX10 ++ wsX50)
def wsX1_addGlove : List Cond := .code yX1_addGlove cX1_addGlove 3 none :: ([.fieldLink RX1 34 "GloveReply$Desk" "gloveCount" "I", .fieldLink RX1 21 "GloveReply$Desk" "room" "[I", .fieldLink RX1 24 "GloveReply$Desk" "kind" "[I", .fieldLink RX1 27 "GloveReply$Desk" "told" "[I", .methodLink RX1 54 yX5_figureAt, .instanceMethod yX5_figureAt, .selects RX5 yX5_figureAt yX5_figureAt, .initialized RX5, .code yX5_figureAt cX5_figureAt 2 (some .int), .fieldLink RX5 9 "GloveReply$Text" "letters" "[I", .static yX6_at, .initialized RX6, .code yX6_at cX6_at 2 (some .int), .static yX6_put, .code yX6_put cX6_put 3 none] ++ wsX10 ++ wsX50)
def wsX1_read_r1 : List Cond := [Cond.fieldLink RX1 30 "GloveReply$Desk" "personCount" "I", Cond.fieldLink RX1 34 "GloveReply$Desk" "gloveCount" "I", Cond.methodLink RX1 37 yX5_size, Cond.instanceMethod yX5_size, Cond.selects RX5 yX5_size yX5_size, Cond.initialized RX5, Cond.code yX5_size cX5_size 1 (some .int), Cond.fieldLink RX5 15 "GloveReply$Text" "length" "I", Cond.methodLink RX1 43 yX5_isPerson, Cond.instanceMethod yX5_isPerson, Cond.selects RX5 yX5_isPerson yX5_isPerson, Cond.code yX5_isPerson cX5_isPerson 2 (some .boolean), Cond.fieldLink RX5 9 "GloveReply$Text" "letters" "[I", Cond.static yX6_at, Cond.initialized RX6, Cond.code yX6_at cX6_at 2 (some .int), Cond.methodLink RX1 47 yX1_addPerson, Cond.instanceMethod yX1_addPerson, Cond.selects RX1 yX1_addPerson yX1_addPerson, Cond.initialized RX1, Cond.code yX1_addPerson cX1_addPerson 3 none, Cond.fieldLink RX1 9 "GloveReply$Desk" "own" "[I", Cond.fieldLink RX1 15 "GloveReply$Desk" "dear" "[I", Cond.fieldLink RX1 18 "GloveReply$Desk" "worth" "[I"]
def wsX1_read_r2 : List Cond := [Cond.methodLink RX1 54 yX5_figureAt, Cond.instanceMethod yX5_figureAt, Cond.selects RX5 yX5_figureAt yX5_figureAt, Cond.code yX5_figureAt cX5_figureAt 2 (some .int), Cond.static yX6_put, Cond.code yX6_put cX6_put 3 none, Cond.methodLink RX1 51 yX1_addGlove, Cond.instanceMethod yX1_addGlove, Cond.selects RX1 yX1_addGlove yX1_addGlove, Cond.code yX1_addGlove cX1_addGlove 3 none, Cond.fieldLink RX1 21 "GloveReply$Desk" "room" "[I", Cond.fieldLink RX1 24 "GloveReply$Desk" "kind" "[I", Cond.fieldLink RX1 27 "GloveReply$Desk" "told" "[I"]
def wsX1_read : List Cond := .code yX1_read cX1_read 3 none :: ((wsX1_read_r1 ++ wsX1_read_r2) ++ wsX10 ++ wsX50)
def wsX1_people : List Cond := .code yX1_people cX1_people 1 (some .int) :: ([.fieldLink RX1 30 "GloveReply$Desk" "personCount" "I"] ++ wsX10)
def wsX1_gloves : List Cond := .code yX1_gloves cX1_gloves 1 (some .int) :: ([.fieldLink RX1 34 "GloveReply$Desk" "gloveCount" "I"] ++ wsX10)
def wsX1_hasPerson : List Cond := .code yX1_hasPerson cX1_hasPerson 2 (some .boolean) :: ([.fieldLink RX1 30 "GloveReply$Desk" "personCount" "I"] ++ wsX10)
def wsX1_hasGlove : List Cond := .code yX1_hasGlove cX1_hasGlove 2 (some .boolean) :: ([.fieldLink RX1 34 "GloveReply$Desk" "gloveCount" "I"] ++ wsX10)
def wsX1_ownOf : List Cond := .code yX1_ownOf cX1_ownOf 2 (some .int) :: ([.fieldLink RX1 9 "GloveReply$Desk" "own" "[I", .static yX6_at, .initialized RX6, .code yX6_at cX6_at 2 (some .int)] ++ wsX10)
def wsX1_dearTo : List Cond := .code yX1_dearTo cX1_dearTo 2 (some .int) :: ([.fieldLink RX1 15 "GloveReply$Desk" "dear" "[I", .static yX6_at, .initialized RX6, .code yX6_at cX6_at 2 (some .int)] ++ wsX10)
def wsX1_worthTo : List Cond := .code yX1_worthTo cX1_worthTo 2 (some .int) :: ([.fieldLink RX1 18 "GloveReply$Desk" "worth" "[I", .static yX6_at, .initialized RX6, .code yX6_at cX6_at 2 (some .int)] ++ wsX10)
def wsX1_roomOf : List Cond := .code yX1_roomOf cX1_roomOf 2 (some .int) :: ([.fieldLink RX1 21 "GloveReply$Desk" "room" "[I", .static yX6_at, .initialized RX6, .code yX6_at cX6_at 2 (some .int)] ++ wsX10)
def wsX1_kindOf : List Cond := .code yX1_kindOf cX1_kindOf 2 (some .int) :: ([.fieldLink RX1 24 "GloveReply$Desk" "kind" "[I", .static yX6_at, .initialized RX6, .code yX6_at cX6_at 2 (some .int)] ++ wsX10)
def wsX1_toldOf : List Cond := .code yX1_toldOf cX1_toldOf 2 (some .int) :: ([.fieldLink RX1 27 "GloveReply$Desk" "told" "[I", .methodLink RX1 66 yX1_hasGlove, .instanceMethod yX1_hasGlove, .selects RX1 yX1_hasGlove yX1_hasGlove, .initialized RX1, .code yX1_hasGlove cX1_hasGlove 2 (some .boolean), .fieldLink RX1 34 "GloveReply$Desk" "gloveCount" "I", .static yX6_at, .initialized RX6, .code yX6_at cX6_at 2 (some .int)] ++ wsX10)
def wsX1_isSomeonesOwn : List Cond := .code yX1_isSomeonesOwn cX1_isSomeonesOwn 3 (some .boolean) :: ([.fieldLink RX1 30 "GloveReply$Desk" "personCount" "I", .methodLink RX1 69 yX1_ownOf, .instanceMethod yX1_ownOf, .selects RX1 yX1_ownOf yX1_ownOf, .initialized RX1, .code yX1_ownOf cX1_ownOf 2 (some .int), .fieldLink RX1 9 "GloveReply$Desk" "own" "[I", .static yX6_at, .initialized RX6, .code yX6_at cX6_at 2 (some .int)] ++ wsX10)
def wsX6_lastOf : List Cond := .code yX6_lastOf cX6_lastOf 1 (some .int) :: ([])
def wsX6_firstOf : List Cond := .code yX6_firstOf cX6_firstOf 1 (some .int) :: ([])
def wsX1_reply : List Cond := .code yX1_reply cX1_reply 5 (some .int) :: ([.static yX6_lastOf, .initialized RX6, .code yX6_lastOf cX6_lastOf 1 (some .int), .methodLink RX1 75 yX1_kindOf, .instanceMethod yX1_kindOf, .selects RX1 yX1_kindOf yX1_kindOf, .initialized RX1, .code yX1_kindOf cX1_kindOf 2 (some .int), .fieldLink RX1 24 "GloveReply$Desk" "kind" "[I", .static yX6_at, .code yX6_at cX6_at 2 (some .int), .static yX6_firstOf, .code yX6_firstOf cX6_firstOf 1 (some .int), .methodLink RX1 69 yX1_ownOf, .instanceMethod yX1_ownOf, .selects RX1 yX1_ownOf yX1_ownOf, .code yX1_ownOf cX1_ownOf 2 (some .int), .fieldLink RX1 9 "GloveReply$Desk" "own" "[I"] ++ wsX10)
def wsX6_withBehind : List Cond := .code yX6_withBehind cX6_withBehind 3 (some .int) :: ([])
def wsX1_afterHand : List Cond := .code yX1_afterHand cX1_afterHand 4 (some .int) :: ([.methodLink RX1 69 yX1_ownOf, .instanceMethod yX1_ownOf, .selects RX1 yX1_ownOf yX1_ownOf, .initialized RX1, .code yX1_ownOf cX1_ownOf 2 (some .int), .fieldLink RX1 9 "GloveReply$Desk" "own" "[I", .static yX6_at, .initialized RX6, .code yX6_at cX6_at 2 (some .int), .methodLink RX1 81 yX1_roomOf, .instanceMethod yX1_roomOf, .selects RX1 yX1_roomOf yX1_roomOf, .code yX1_roomOf cX1_roomOf 2 (some .int), .fieldLink RX1 21 "GloveReply$Desk" "room" "[I", .static yX6_withBehind, .code yX6_withBehind cX6_withBehind 3 (some .int)] ++ wsX10)
def wsX2_start : List Cond := .code yX2_start cX2_start 3 none :: ([.fieldLink RX2 9 "GloveReply$Moment" "kept" "[I", .fieldLink RX2 15 "GloveReply$Moment" "wearer" "[I", .fieldLink RX2 18 "GloveReply$Moment" "date" "I", .methodLink RX2 26 yX1_toldOf, .instanceMethod yX1_toldOf, .selects RX1 yX1_toldOf yX1_toldOf, .initialized RX1, .code yX1_toldOf cX1_toldOf 2 (some .int), .fieldLink RX1 27 "GloveReply$Desk" "told" "[I", .methodLink RX1 66 yX1_hasGlove, .instanceMethod yX1_hasGlove, .selects RX1 yX1_hasGlove yX1_hasGlove, .code yX1_hasGlove cX1_hasGlove 2 (some .boolean), .fieldLink RX1 34 "GloveReply$Desk" "gloveCount" "I", .static yX6_at, .initialized RX6, .code yX6_at cX6_at 2 (some .int), .static yX6_put, .code yX6_put cX6_put 3 none] ++ wsX20 ++ wsX10)
def wsX2_isTaken : List Cond := .code yX2_isTaken cX2_isTaken 1 (some .boolean) :: ([.fieldLink RX2 22 "GloveReply$Moment" "taken" "Z"] ++ wsX20)
def wsX2_release : List Cond := .code yX2_release cX2_release 1 none :: ([.fieldLink RX2 22 "GloveReply$Moment" "taken" "Z"] ++ wsX20)
def wsX2_today : List Cond := .code yX2_today cX2_today 1 (some .int) :: ([.fieldLink RX2 18 "GloveReply$Moment" "date" "I"] ++ wsX20)
def wsX2_nextDay : List Cond := .code yX2_nextDay cX2_nextDay 1 none :: ([.fieldLink RX2 18 "GloveReply$Moment" "date" "I"] ++ wsX20)
def wsX2_keptBy : List Cond := .code yX2_keptBy cX2_keptBy 2 (some .int) :: ([.fieldLink RX2 9 "GloveReply$Moment" "kept" "[I", .static yX6_at, .initialized RX6, .code yX6_at cX6_at 2 (some .int)] ++ wsX20)
def wsX2_setKept : List Cond := .code yX2_setKept cX2_setKept 3 none :: ([.fieldLink RX2 9 "GloveReply$Moment" "kept" "[I", .static yX6_put, .initialized RX6, .code yX6_put cX6_put 3 none] ++ wsX20)
def wsX2_wearerOf : List Cond := .code yX2_wearerOf cX2_wearerOf 2 (some .int) :: ([.fieldLink RX2 15 "GloveReply$Moment" "wearer" "[I", .static yX6_at, .initialized RX6, .code yX6_at cX6_at 2 (some .int)] ++ wsX20)
def wsX2_putOn : List Cond := .code yX2_putOn cX2_putOn 3 none :: ([.fieldLink RX2 15 "GloveReply$Moment" "wearer" "[I", .static yX6_put, .initialized RX6, .code yX6_put cX6_put 3 none] ++ wsX20)
def wsX2_isWorn : List Cond := .code yX2_isWorn cX2_isWorn 2 (some .boolean) :: ([.methodLink RX2 44 yX2_wearerOf, .instanceMethod yX2_wearerOf, .selects RX2 yX2_wearerOf yX2_wearerOf, .initialized RX2, .code yX2_wearerOf cX2_wearerOf 2 (some .int), .fieldLink RX2 15 "GloveReply$Moment" "wearer" "[I", .static yX6_at, .initialized RX6, .code yX6_at cX6_at 2 (some .int)] ++ wsX20)
def wsX2_gloveOn : List Cond := .code yX2_gloveOn cX2_gloveOn 3 (some .int) :: ([.methodLink RX2 44 yX2_wearerOf, .instanceMethod yX2_wearerOf, .selects RX2 yX2_wearerOf yX2_wearerOf, .initialized RX2, .code yX2_wearerOf cX2_wearerOf 2 (some .int), .fieldLink RX2 15 "GloveReply$Moment" "wearer" "[I", .static yX6_at, .initialized RX6, .code yX6_at cX6_at 2 (some .int)] ++ wsX20)
def wsX2_wornBits : List Cond := .code yX2_wornBits cX2_wornBits 3 (some .int) :: ([.methodLink RX2 47 yX2_isWorn, .instanceMethod yX2_isWorn, .selects RX2 yX2_isWorn yX2_isWorn, .initialized RX2, .code yX2_isWorn cX2_isWorn 2 (some .boolean), .methodLink RX2 44 yX2_wearerOf, .instanceMethod yX2_wearerOf, .selects RX2 yX2_wearerOf yX2_wearerOf, .code yX2_wearerOf cX2_wearerOf 2 (some .int), .fieldLink RX2 15 "GloveReply$Moment" "wearer" "[I", .static yX6_at, .initialized RX6, .code yX6_at cX6_at 2 (some .int)] ++ wsX20)
def wsX3_init : List Cond := .code yX3_init cX3_init 1 none :: ([.methodLink RX3 3 objectInit, .instanceMethod objectInit, .code objectInit ⟨#[0xb1]⟩ 1 none, .arrayClass .int, .fieldLink RX3 9 "GloveReply$Sightings" "gloves" "[I", .fieldLink RX3 15 "GloveReply$Sightings" "people" "[I", .fieldLink RX3 18 "GloveReply$Sightings" "doings" "[I", .fieldLink RX3 21 "GloveReply$Sightings" "count" "I"] ++ wsX30)
def wsX3_size : List Cond := .code yX3_size cX3_size 1 (some .int) :: ([.fieldLink RX3 21 "GloveReply$Sightings" "count" "I"] ++ wsX30)
def wsX3_clear : List Cond := .code yX3_clear cX3_clear 1 none :: ([.fieldLink RX3 21 "GloveReply$Sightings" "count" "I"] ++ wsX30)
def wsX3_add : List Cond := .code yX3_add cX3_add 4 none :: ([.fieldLink RX3 21 "GloveReply$Sightings" "count" "I", .fieldLink RX3 9 "GloveReply$Sightings" "gloves" "[I", .fieldLink RX3 15 "GloveReply$Sightings" "people" "[I", .fieldLink RX3 18 "GloveReply$Sightings" "doings" "[I", .static yX6_put, .initialized RX6, .code yX6_put cX6_put 3 none] ++ wsX30)
def wsX3_personAt : List Cond := .code yX3_personAt cX3_personAt 2 (some .int) :: ([.fieldLink RX3 15 "GloveReply$Sightings" "people" "[I", .static yX6_at, .initialized RX6, .code yX6_at cX6_at 2 (some .int)] ++ wsX30)
def wsX3_doingAt : List Cond := .code yX3_doingAt cX3_doingAt 2 (some .int) :: ([.fieldLink RX3 18 "GloveReply$Sightings" "doings" "[I", .static yX6_at, .initialized RX6, .code yX6_at cX6_at 2 (some .int)] ++ wsX30)
def wsX3_nextOf : List Cond := .code yX3_nextOf cX3_nextOf 5 (some .int) :: ([.fieldLink RX3 21 "GloveReply$Sightings" "count" "I", .fieldLink RX3 9 "GloveReply$Sightings" "gloves" "[I", .static yX6_at, .initialized RX6, .code yX6_at cX6_at 2 (some .int), .methodLink RX3 33 yX3_personAt, .instanceMethod yX3_personAt, .selects RX3 yX3_personAt yX3_personAt, .initialized RX3, .code yX3_personAt cX3_personAt 2 (some .int), .fieldLink RX3 15 "GloveReply$Sightings" "people" "[I", .methodLink RX3 37 yX1_hasPerson, .instanceMethod yX1_hasPerson, .selects RX1 yX1_hasPerson yX1_hasPerson, .initialized RX1, .code yX1_hasPerson cX1_hasPerson 2 (some .boolean), .fieldLink RX1 30 "GloveReply$Desk" "personCount" "I"] ++ wsX30 ++ wsX10)
def wsX4_init : List Cond := .code yX4_init cX4_init 1 none :: ([.methodLink RX4 3 objectInit, .instanceMethod objectInit, .code objectInit ⟨#[0xb1]⟩ 1 none, .fieldLink RX4 9 "GloveReply$Tally" "count" "I", .fieldLink RX4 15 "GloveReply$Tally" "first" "I"] ++ wsX40)
def wsX4_start : List Cond := .code yX4_start cX4_start 1 none :: ([.fieldLink RX4 9 "GloveReply$Tally" "count" "I", .fieldLink RX4 15 "GloveReply$Tally" "first" "I"] ++ wsX40)
def wsX4_add : List Cond := .code yX4_add cX4_add 2 none :: ([.fieldLink RX4 9 "GloveReply$Tally" "count" "I", .fieldLink RX4 15 "GloveReply$Tally" "first" "I"] ++ wsX40)
def wsX4_told : List Cond := .code yX4_told cX4_told 2 (some .int) :: ([.fieldLink RX4 9 "GloveReply$Tally" "count" "I", .fieldLink RX4 15 "GloveReply$Tally" "first" "I"] ++ wsX40)
def wsX5_init : List Cond := .code yX5_init cX5_init 1 none :: ([.methodLink RX5 3 objectInit, .instanceMethod objectInit, .code objectInit ⟨#[0xb1]⟩ 1 none, .arrayClass .int, .fieldLink RX5 9 "GloveReply$Text" "letters" "[I", .fieldLink RX5 15 "GloveReply$Text" "length" "I"] ++ wsX50)
def wsX5_add : List Cond := .code yX5_add cX5_add 2 none :: ([.fieldLink RX5 15 "GloveReply$Text" "length" "I", .fieldLink RX5 9 "GloveReply$Text" "letters" "[I", .static yX6_put, .initialized RX6, .code yX6_put cX6_put 3 none] ++ wsX50)
def wsX5_clear : List Cond := .code yX5_clear cX5_clear 1 none :: ([.fieldLink RX5 15 "GloveReply$Text" "length" "I"] ++ wsX50)
def wsX5_partsAhead : List Cond := .code yX5_partsAhead cX5_partsAhead 5 (some .int) :: ([.fieldLink RX5 9 "GloveReply$Text" "letters" "[I", .static yX6_at, .initialized RX6, .code yX6_at cX6_at 2 (some .int)] ++ wsX50)
def wsX6_within : List Cond := .code yX6_within cX6_within 3 (some .boolean) :: ([])
def wsX5_fits : List Cond := .code yX5_fits cX5_fits 7 (some .boolean) :: ([.fieldLink RX5 9 "GloveReply$Text" "letters" "[I", .fieldLink RX5 42 "GloveReply$Text" "PERSON_LEAST" "[I", .fieldLink RX5 45 "GloveReply$Text" "GLOVE_LEAST" "[I", .fieldLink RX5 48 "GloveReply$Text" "PERSON_MOST" "[I", .fieldLink RX5 51 "GloveReply$Text" "GLOVE_MOST" "[I", .static yX6_at, .initialized RX6, .code yX6_at cX6_at 2 (some .int), .methodLink RX5 35 yX5_partsAhead, .instanceMethod yX5_partsAhead, .selects RX5 yX5_partsAhead yX5_partsAhead, .initialized RX5, .code yX5_partsAhead cX5_partsAhead 5 (some .int), .methodLink RX5 39 yX5_isPerson, .instanceMethod yX5_isPerson, .selects RX5 yX5_isPerson yX5_isPerson, .code yX5_isPerson cX5_isPerson 2 (some .boolean), .methodLink RX5 54 yX5_figureAt, .instanceMethod yX5_figureAt, .selects RX5 yX5_figureAt yX5_figureAt, .code yX5_figureAt cX5_figureAt 2 (some .int), .static yX6_within, .code yX6_within cX6_within 3 (some .boolean)] ++ wsX50)
def wsX5_endsAPart : List Cond := .code yX5_endsAPart cX5_endsAPart 1 (some .boolean) :: ([.fieldLink RX5 15 "GloveReply$Text" "length" "I"] ++ wsX50)
def wsX5_firstFault_r1 : List Cond := [Cond.fieldLink RX5 15 "GloveReply$Text" "length" "I", Cond.methodLink RX5 23 yX5_fits, Cond.instanceMethod yX5_fits, Cond.selects RX5 yX5_fits yX5_fits, Cond.initialized RX5, Cond.code yX5_fits cX5_fits 7 (some .boolean), Cond.fieldLink RX5 9 "GloveReply$Text" "letters" "[I", Cond.fieldLink RX5 42 "GloveReply$Text" "PERSON_LEAST" "[I", Cond.fieldLink RX5 45 "GloveReply$Text" "GLOVE_LEAST" "[I", Cond.fieldLink RX5 48 "GloveReply$Text" "PERSON_MOST" "[I", Cond.fieldLink RX5 51 "GloveReply$Text" "GLOVE_MOST" "[I", Cond.static yX6_at, Cond.initialized RX6, Cond.code yX6_at cX6_at 2 (some .int), Cond.methodLink RX5 35 yX5_partsAhead, Cond.instanceMethod yX5_partsAhead, Cond.selects RX5 yX5_partsAhead yX5_partsAhead, Cond.code yX5_partsAhead cX5_partsAhead 5 (some .int), Cond.methodLink RX5 39 yX5_isPerson, Cond.instanceMethod yX5_isPerson, Cond.selects RX5 yX5_isPerson yX5_isPerson, Cond.code yX5_isPerson cX5_isPerson 2 (some .boolean), Cond.methodLink RX5 54 yX5_figureAt, Cond.instanceMethod yX5_figureAt]
def wsX5_firstFault_r2 : List Cond := [Cond.selects RX5 yX5_figureAt yX5_figureAt, Cond.code yX5_figureAt cX5_figureAt 2 (some .int), Cond.static yX6_within, Cond.code yX6_within cX6_within 3 (some .boolean), Cond.methodLink RX5 27 yX5_endsAPart, Cond.instanceMethod yX5_endsAPart, Cond.selects RX5 yX5_endsAPart yX5_endsAPart, Cond.code yX5_endsAPart cX5_endsAPart 1 (some .boolean)]
def wsX5_firstFault : List Cond := .code yX5_firstFault cX5_firstFault 2 (some .int) :: ((wsX5_firstFault_r1 ++ wsX5_firstFault_r2) ++ wsX50)
def wsX6_init_r1 : List Cond := [Cond.methodLink RX6 1 objectInit, Cond.instanceMethod objectInit, Cond.code objectInit ⟨#[0xb1]⟩ 1 none, Cond.classLink RX6 7 RX5, Cond.instantiable RX5 2, Cond.initialized RX5, Cond.fieldLink RX6 10 "GloveReply" "theText" "LGloveReply$Text;", Cond.classLink RX6 16 RX1, Cond.instantiable RX1 8, Cond.initialized RX1, Cond.fieldLink RX6 19 "GloveReply" "theDesk" "LGloveReply$Desk;", Cond.classLink RX6 23 RX2, Cond.instantiable RX2 4, Cond.initialized RX2, Cond.fieldLink RX6 26 "GloveReply" "now" "LGloveReply$Moment;", Cond.fieldLink RX6 30 "GloveReply" "trial" "LGloveReply$Moment;", Cond.classLink RX6 33 RX0, Cond.instantiable RX0 3, Cond.initialized RX0, Cond.fieldLink RX6 36 "GloveReply" "acts" "LGloveReply$Acts;", Cond.classLink RX6 40 RX3, Cond.instantiable RX3 4, Cond.initialized RX3, Cond.fieldLink RX6 43 "GloveReply" "sightings" "LGloveReply$Sightings;"]
def wsX6_init_r2 : List Cond := [Cond.classLink RX6 47 RX4, Cond.instantiable RX4 2, Cond.initialized RX4, Cond.fieldLink RX6 50 "GloveReply" "tally" "LGloveReply$Tally;", Cond.fieldLink RX6 54 "GloveReply" "slots" "[LGloveReply$Moment;", Cond.fieldLink RX6 58 "GloveReply" "theSeed" "J", Cond.methodLink RX6 9 yX5_init, Cond.instanceMethod yX5_init, Cond.code yX5_init cX5_init 1 none, Cond.methodLink RX5 3 objectInit, Cond.arrayClass .int, Cond.fieldLink RX5 9 "GloveReply$Text" "letters" "[I", Cond.fieldLink RX5 15 "GloveReply$Text" "length" "I", Cond.methodLink RX6 18 yX1_init, Cond.instanceMethod yX1_init, Cond.code yX1_init cX1_init 1 none, Cond.methodLink RX1 3 objectInit, Cond.fieldLink RX1 9 "GloveReply$Desk" "own" "[I", Cond.fieldLink RX1 15 "GloveReply$Desk" "dear" "[I", Cond.fieldLink RX1 18 "GloveReply$Desk" "worth" "[I", Cond.fieldLink RX1 21 "GloveReply$Desk" "room" "[I", Cond.fieldLink RX1 24 "GloveReply$Desk" "kind" "[I", Cond.fieldLink RX1 27 "GloveReply$Desk" "told" "[I", Cond.fieldLink RX1 30 "GloveReply$Desk" "personCount" "I"]
def wsX6_init_r3 : List Cond := [Cond.fieldLink RX1 34 "GloveReply$Desk" "gloveCount" "I", Cond.methodLink RX6 25 yX2_init, Cond.instanceMethod yX2_init, Cond.code yX2_init cX2_init 2 none, Cond.methodLink RX2 3 objectInit, Cond.fieldLink RX2 9 "GloveReply$Moment" "kept" "[I", Cond.fieldLink RX2 15 "GloveReply$Moment" "wearer" "[I", Cond.fieldLink RX2 18 "GloveReply$Moment" "date" "I", Cond.fieldLink RX2 22 "GloveReply$Moment" "taken" "Z", Cond.methodLink RX6 35 yX0_init, Cond.instanceMethod yX0_init, Cond.code yX0_init cX0_init 2 none, Cond.methodLink RX0 3 objectInit, Cond.classLink RX0 9 RX2, Cond.fieldLink RX0 11 "GloveReply$Acts" "ring" "[LGloveReply$Moment;", Cond.fieldLink RX0 18 "GloveReply$Acts" "oldest" "I", Cond.fieldLink RX0 22 "GloveReply$Acts" "count" "I", Cond.methodLink RX0 17 yX2_init, Cond.methodLink RX6 42 yX3_init, Cond.instanceMethod yX3_init, Cond.code yX3_init cX3_init 1 none, Cond.methodLink RX3 3 objectInit, Cond.fieldLink RX3 9 "GloveReply$Sightings" "gloves" "[I", Cond.fieldLink RX3 15 "GloveReply$Sightings" "people" "[I"]
def wsX6_init_r4 : List Cond := [Cond.fieldLink RX3 18 "GloveReply$Sightings" "doings" "[I", Cond.fieldLink RX3 21 "GloveReply$Sightings" "count" "I", Cond.methodLink RX6 49 yX4_init, Cond.instanceMethod yX4_init, Cond.code yX4_init cX4_init 1 none, Cond.methodLink RX4 3 objectInit, Cond.fieldLink RX4 9 "GloveReply$Tally" "count" "I", Cond.fieldLink RX4 15 "GloveReply$Tally" "first" "I"]
def wsX6_init : List Cond := .code yX6_init cX6_init 2 none :: ((wsX6_init_r1 ++ (wsX6_init_r2 ++ (wsX6_init_r3 ++ wsX6_init_r4))) ++ wsX50 ++ wsX60 ++ wsX10 ++ wsX20 ++ wsX00 ++ wsX30 ++ wsX40)
def wsX6_write : List Cond := .code yX6_write cX6_write 2 (some .int) :: ([.fieldLink RX6 10 "GloveReply" "theText" "LGloveReply$Text;", .methodLink RX6 62 yX6_within, .static yX6_within, .initialized RX6, .code yX6_within cX6_within 3 (some .boolean), .methodLink RX6 66 yX5_size, .instanceMethod yX5_size, .selects RX5 yX5_size yX5_size, .initialized RX5, .code yX5_size cX5_size 1 (some .int), .fieldLink RX5 15 "GloveReply$Text" "length" "I", .methodLink RX6 70 yX5_add, .instanceMethod yX5_add, .selects RX5 yX5_add yX5_add, .code yX5_add cX5_add 2 none, .fieldLink RX5 9 "GloveReply$Text" "letters" "[I", .static yX6_put, .code yX6_put cX6_put 3 none] ++ wsX60 ++ wsX50)
def wsX6_wipe : List Cond := .code yX6_wipe cX6_wipe 2 (some .int) :: ([.fieldLink RX6 10 "GloveReply" "theText" "LGloveReply$Text;", .methodLink RX6 66 yX5_size, .instanceMethod yX5_size, .selects RX5 yX5_size yX5_size, .initialized RX5, .code yX5_size cX5_size 1 (some .int), .fieldLink RX5 15 "GloveReply$Text" "length" "I", .methodLink RX6 74 yX5_clear, .instanceMethod yX5_clear, .selects RX5 yX5_clear yX5_clear, .code yX5_clear cX5_clear 1 none] ++ wsX60 ++ wsX50)
def wsX6_fault_r1 : List Cond := [Cond.fieldLink RX6 10 "GloveReply" "theText" "LGloveReply$Text;", Cond.methodLink RX6 77 yX5_firstFault, Cond.instanceMethod yX5_firstFault, Cond.selects RX5 yX5_firstFault yX5_firstFault, Cond.initialized RX5, Cond.code yX5_firstFault cX5_firstFault 2 (some .int), Cond.fieldLink RX5 15 "GloveReply$Text" "length" "I", Cond.methodLink RX5 23 yX5_fits, Cond.instanceMethod yX5_fits, Cond.selects RX5 yX5_fits yX5_fits, Cond.code yX5_fits cX5_fits 7 (some .boolean), Cond.fieldLink RX5 9 "GloveReply$Text" "letters" "[I", Cond.fieldLink RX5 42 "GloveReply$Text" "PERSON_LEAST" "[I", Cond.fieldLink RX5 45 "GloveReply$Text" "GLOVE_LEAST" "[I", Cond.fieldLink RX5 48 "GloveReply$Text" "PERSON_MOST" "[I", Cond.fieldLink RX5 51 "GloveReply$Text" "GLOVE_MOST" "[I", Cond.static yX6_at, Cond.initialized RX6, Cond.code yX6_at cX6_at 2 (some .int), Cond.methodLink RX5 35 yX5_partsAhead, Cond.instanceMethod yX5_partsAhead, Cond.selects RX5 yX5_partsAhead yX5_partsAhead, Cond.code yX5_partsAhead cX5_partsAhead 5 (some .int), Cond.methodLink RX5 39 yX5_isPerson]
def wsX6_fault_r2 : List Cond := [Cond.instanceMethod yX5_isPerson, Cond.selects RX5 yX5_isPerson yX5_isPerson, Cond.code yX5_isPerson cX5_isPerson 2 (some .boolean), Cond.methodLink RX5 54 yX5_figureAt, Cond.instanceMethod yX5_figureAt, Cond.selects RX5 yX5_figureAt yX5_figureAt, Cond.code yX5_figureAt cX5_figureAt 2 (some .int), Cond.static yX6_within, Cond.code yX6_within cX6_within 3 (some .boolean), Cond.methodLink RX5 27 yX5_endsAPart, Cond.instanceMethod yX5_endsAPart, Cond.selects RX5 yX5_endsAPart yX5_endsAPart, Cond.code yX5_endsAPart cX5_endsAPart 1 (some .boolean)]
def wsX6_fault : List Cond := .code yX6_fault cX6_fault 1 (some .int) :: ((wsX6_fault_r1 ++ wsX6_fault_r2) ++ wsX60 ++ wsX50)
def wsX6_forgetSlots : List Cond := .code yX6_forgetSlots cX6_forgetSlots 3 none :: ([.fieldLink RX6 54 "GloveReply" "slots" "[LGloveReply$Moment;", .methodLink RX6 249 yX2_release, .instanceMethod yX2_release, .selects RX2 yX2_release yX2_release, .initialized RX2, .code yX2_release cX2_release 1 none, .fieldLink RX2 22 "GloveReply$Moment" "taken" "Z"] ++ wsX60 ++ wsX20)
def wsX6_desk_r1 : List Cond := [Cond.fieldLink RX6 10 "GloveReply" "theText" "LGloveReply$Text;", Cond.fieldLink RX6 19 "GloveReply" "theDesk" "LGloveReply$Desk;", Cond.fieldLink RX6 26 "GloveReply" "now" "LGloveReply$Moment;", Cond.fieldLink RX6 36 "GloveReply" "acts" "LGloveReply$Acts;", Cond.methodLink RX6 77 yX5_firstFault, Cond.instanceMethod yX5_firstFault, Cond.selects RX5 yX5_firstFault yX5_firstFault, Cond.initialized RX5, Cond.code yX5_firstFault cX5_firstFault 2 (some .int), Cond.fieldLink RX5 15 "GloveReply$Text" "length" "I", Cond.methodLink RX5 23 yX5_fits, Cond.instanceMethod yX5_fits, Cond.selects RX5 yX5_fits yX5_fits, Cond.code yX5_fits cX5_fits 7 (some .boolean), Cond.fieldLink RX5 9 "GloveReply$Text" "letters" "[I", Cond.fieldLink RX5 42 "GloveReply$Text" "PERSON_LEAST" "[I", Cond.fieldLink RX5 45 "GloveReply$Text" "GLOVE_LEAST" "[I", Cond.fieldLink RX5 48 "GloveReply$Text" "PERSON_MOST" "[I", Cond.fieldLink RX5 51 "GloveReply$Text" "GLOVE_MOST" "[I", Cond.static yX6_at, Cond.initialized RX6, Cond.code yX6_at cX6_at 2 (some .int), Cond.methodLink RX5 35 yX5_partsAhead, Cond.instanceMethod yX5_partsAhead]
def wsX6_desk_r2 : List Cond := [Cond.selects RX5 yX5_partsAhead yX5_partsAhead, Cond.code yX5_partsAhead cX5_partsAhead 5 (some .int), Cond.methodLink RX5 39 yX5_isPerson, Cond.instanceMethod yX5_isPerson, Cond.selects RX5 yX5_isPerson yX5_isPerson, Cond.code yX5_isPerson cX5_isPerson 2 (some .boolean), Cond.methodLink RX5 54 yX5_figureAt, Cond.instanceMethod yX5_figureAt, Cond.selects RX5 yX5_figureAt yX5_figureAt, Cond.code yX5_figureAt cX5_figureAt 2 (some .int), Cond.static yX6_within, Cond.code yX6_within cX6_within 3 (some .boolean), Cond.methodLink RX5 27 yX5_endsAPart, Cond.instanceMethod yX5_endsAPart, Cond.selects RX5 yX5_endsAPart yX5_endsAPart, Cond.code yX5_endsAPart cX5_endsAPart 1 (some .boolean), Cond.methodLink RX6 80 yX1_read, Cond.instanceMethod yX1_read, Cond.selects RX1 yX1_read yX1_read, Cond.initialized RX1, Cond.code yX1_read cX1_read 3 none, Cond.fieldLink RX1 30 "GloveReply$Desk" "personCount" "I", Cond.fieldLink RX1 34 "GloveReply$Desk" "gloveCount" "I", Cond.methodLink RX1 37 yX5_size]
def wsX6_desk_r3 : List Cond := [Cond.instanceMethod yX5_size, Cond.selects RX5 yX5_size yX5_size, Cond.code yX5_size cX5_size 1 (some .int), Cond.methodLink RX1 43 yX5_isPerson, Cond.methodLink RX1 47 yX1_addPerson, Cond.instanceMethod yX1_addPerson, Cond.selects RX1 yX1_addPerson yX1_addPerson, Cond.code yX1_addPerson cX1_addPerson 3 none, Cond.fieldLink RX1 9 "GloveReply$Desk" "own" "[I", Cond.fieldLink RX1 15 "GloveReply$Desk" "dear" "[I", Cond.fieldLink RX1 18 "GloveReply$Desk" "worth" "[I", Cond.methodLink RX1 54 yX5_figureAt, Cond.static yX6_put, Cond.code yX6_put cX6_put 3 none, Cond.methodLink RX1 51 yX1_addGlove, Cond.instanceMethod yX1_addGlove, Cond.selects RX1 yX1_addGlove yX1_addGlove, Cond.code yX1_addGlove cX1_addGlove 3 none, Cond.fieldLink RX1 21 "GloveReply$Desk" "room" "[I", Cond.fieldLink RX1 24 "GloveReply$Desk" "kind" "[I", Cond.fieldLink RX1 27 "GloveReply$Desk" "told" "[I", Cond.methodLink RX6 84 yX2_start, Cond.instanceMethod yX2_start, Cond.selects RX2 yX2_start yX2_start]
def wsX6_desk_r4 : List Cond := [Cond.initialized RX2, Cond.code yX2_start cX2_start 3 none, Cond.fieldLink RX2 9 "GloveReply$Moment" "kept" "[I", Cond.fieldLink RX2 15 "GloveReply$Moment" "wearer" "[I", Cond.fieldLink RX2 18 "GloveReply$Moment" "date" "I", Cond.methodLink RX2 26 yX1_toldOf, Cond.instanceMethod yX1_toldOf, Cond.selects RX1 yX1_toldOf yX1_toldOf, Cond.code yX1_toldOf cX1_toldOf 2 (some .int), Cond.methodLink RX1 66 yX1_hasGlove, Cond.instanceMethod yX1_hasGlove, Cond.selects RX1 yX1_hasGlove yX1_hasGlove, Cond.code yX1_hasGlove cX1_hasGlove 2 (some .boolean), Cond.methodLink RX6 88 yX0_clear, Cond.instanceMethod yX0_clear, Cond.selects RX0 yX0_clear yX0_clear, Cond.initialized RX0, Cond.code yX0_clear cX0_clear 1 none, Cond.fieldLink RX0 22 "GloveReply$Acts" "count" "I", Cond.methodLink RX6 89 yX6_forgetSlots, Cond.instanceMethod yX6_forgetSlots, Cond.selects RX6 yX6_forgetSlots yX6_forgetSlots, Cond.code yX6_forgetSlots cX6_forgetSlots 3 none, Cond.fieldLink RX6 54 "GloveReply" "slots" "[LGloveReply$Moment;"]
def wsX6_desk_r5 : List Cond := [Cond.methodLink RX6 249 yX2_release, Cond.instanceMethod yX2_release, Cond.selects RX2 yX2_release yX2_release, Cond.code yX2_release cX2_release 1 none, Cond.fieldLink RX2 22 "GloveReply$Moment" "taken" "Z", Cond.methodLink RX6 92 yX1_people, Cond.instanceMethod yX1_people, Cond.selects RX1 yX1_people yX1_people, Cond.code yX1_people cX1_people 1 (some .int), Cond.methodLink RX6 95 yX1_gloves, Cond.instanceMethod yX1_gloves, Cond.selects RX1 yX1_gloves yX1_gloves, Cond.code yX1_gloves cX1_gloves 1 (some .int)]
def wsX6_desk : List Cond := .code yX6_desk cX6_desk 1 (some .int) :: ((wsX6_desk_r1 ++ (wsX6_desk_r2 ++ (wsX6_desk_r3 ++ (wsX6_desk_r4 ++ wsX6_desk_r5)))) ++ wsX60 ++ wsX50 ++ wsX10 ++ wsX20 ++ wsX00)
def wsX6_about_r1 : List Cond := [Cond.fieldLink RX6 19 "GloveReply" "theDesk" "LGloveReply$Desk;", Cond.fieldLink RX6 26 "GloveReply" "now" "LGloveReply$Moment;", Cond.fieldLink RX6 36 "GloveReply" "acts" "LGloveReply$Acts;", Cond.fieldLink RX6 43 "GloveReply" "sightings" "LGloveReply$Sightings;", Cond.fieldLink RX6 10 "GloveReply" "theText" "LGloveReply$Text;", Cond.methodLink RX6 92 yX1_people, Cond.instanceMethod yX1_people, Cond.selects RX1 yX1_people yX1_people, Cond.initialized RX1, Cond.code yX1_people cX1_people 1 (some .int), Cond.fieldLink RX1 30 "GloveReply$Desk" "personCount" "I", Cond.methodLink RX6 95 yX1_gloves, Cond.instanceMethod yX1_gloves, Cond.selects RX1 yX1_gloves yX1_gloves, Cond.code yX1_gloves cX1_gloves 1 (some .int), Cond.fieldLink RX1 34 "GloveReply$Desk" "gloveCount" "I", Cond.methodLink RX6 98 yX2_today, Cond.instanceMethod yX2_today, Cond.selects RX2 yX2_today yX2_today, Cond.initialized RX2, Cond.code yX2_today cX2_today 1 (some .int), Cond.fieldLink RX2 18 "GloveReply$Moment" "date" "I", Cond.methodLink RX6 101 yX2_wornBits, Cond.instanceMethod yX2_wornBits]
def wsX6_about_r2 : List Cond := [Cond.selects RX2 yX2_wornBits yX2_wornBits, Cond.code yX2_wornBits cX2_wornBits 3 (some .int), Cond.methodLink RX2 47 yX2_isWorn, Cond.instanceMethod yX2_isWorn, Cond.selects RX2 yX2_isWorn yX2_isWorn, Cond.code yX2_isWorn cX2_isWorn 2 (some .boolean), Cond.methodLink RX2 44 yX2_wearerOf, Cond.instanceMethod yX2_wearerOf, Cond.selects RX2 yX2_wearerOf yX2_wearerOf, Cond.code yX2_wearerOf cX2_wearerOf 2 (some .int), Cond.fieldLink RX2 15 "GloveReply$Moment" "wearer" "[I", Cond.static yX6_at, Cond.initialized RX6, Cond.code yX6_at cX6_at 2 (some .int), Cond.methodLink RX6 104 yX0_size, Cond.instanceMethod yX0_size, Cond.selects RX0 yX0_size yX0_size, Cond.initialized RX0, Cond.code yX0_size cX0_size 1 (some .int), Cond.fieldLink RX0 22 "GloveReply$Acts" "count" "I", Cond.methodLink RX6 105 yX3_size, Cond.instanceMethod yX3_size, Cond.selects RX3 yX3_size yX3_size, Cond.initialized RX3]
def wsX6_about_r3 : List Cond := [Cond.code yX3_size cX3_size 1 (some .int), Cond.fieldLink RX3 21 "GloveReply$Sightings" "count" "I", Cond.methodLink RX6 66 yX5_size, Cond.instanceMethod yX5_size, Cond.selects RX5 yX5_size yX5_size, Cond.initialized RX5, Cond.code yX5_size cX5_size 1 (some .int), Cond.fieldLink RX5 15 "GloveReply$Text" "length" "I"]
def wsX6_about : List Cond := .code yX6_about cX6_about 2 (some .int) :: ((wsX6_about_r1 ++ (wsX6_about_r2 ++ wsX6_about_r3)) ++ wsX60 ++ wsX10 ++ wsX20 ++ wsX00 ++ wsX30 ++ wsX50)
def wsX6_person_r1 : List Cond := [Cond.fieldLink RX6 19 "GloveReply" "theDesk" "LGloveReply$Desk;", Cond.fieldLink RX6 26 "GloveReply" "now" "LGloveReply$Moment;", Cond.methodLink RX6 106 yX1_hasPerson, Cond.instanceMethod yX1_hasPerson, Cond.selects RX1 yX1_hasPerson yX1_hasPerson, Cond.initialized RX1, Cond.code yX1_hasPerson cX1_hasPerson 2 (some .boolean), Cond.fieldLink RX1 30 "GloveReply$Desk" "personCount" "I", Cond.methodLink RX6 110 yX1_ownOf, Cond.instanceMethod yX1_ownOf, Cond.selects RX1 yX1_ownOf yX1_ownOf, Cond.code yX1_ownOf cX1_ownOf 2 (some .int), Cond.fieldLink RX1 9 "GloveReply$Desk" "own" "[I", Cond.static yX6_at, Cond.initialized RX6, Cond.code yX6_at cX6_at 2 (some .int), Cond.methodLink RX6 114 yX1_dearTo, Cond.instanceMethod yX1_dearTo, Cond.selects RX1 yX1_dearTo yX1_dearTo, Cond.code yX1_dearTo cX1_dearTo 2 (some .int), Cond.fieldLink RX1 15 "GloveReply$Desk" "dear" "[I", Cond.methodLink RX6 117 yX1_worthTo, Cond.instanceMethod yX1_worthTo, Cond.selects RX1 yX1_worthTo yX1_worthTo]
def wsX6_person_r2 : List Cond := [Cond.code yX1_worthTo cX1_worthTo 2 (some .int), Cond.fieldLink RX1 18 "GloveReply$Desk" "worth" "[I", Cond.methodLink RX6 120 yX2_gloveOn, Cond.instanceMethod yX2_gloveOn, Cond.selects RX2 yX2_gloveOn yX2_gloveOn, Cond.initialized RX2, Cond.code yX2_gloveOn cX2_gloveOn 3 (some .int), Cond.methodLink RX2 44 yX2_wearerOf, Cond.instanceMethod yX2_wearerOf, Cond.selects RX2 yX2_wearerOf yX2_wearerOf, Cond.code yX2_wearerOf cX2_wearerOf 2 (some .int), Cond.fieldLink RX2 15 "GloveReply$Moment" "wearer" "[I"]
def wsX6_person : List Cond := .code yX6_person cX6_person 3 (some .int) :: ((wsX6_person_r1 ++ wsX6_person_r2) ++ wsX60 ++ wsX10 ++ wsX20)
def wsX6_figuresIn : List Cond := .code yX6_figuresIn cX6_figuresIn 3 (some .int) :: ([])
def wsX6_glove_r1 : List Cond := [Cond.fieldLink RX6 19 "GloveReply" "theDesk" "LGloveReply$Desk;", Cond.fieldLink RX6 26 "GloveReply" "now" "LGloveReply$Moment;", Cond.methodLink RX6 123 yX1_hasGlove, Cond.instanceMethod yX1_hasGlove, Cond.selects RX1 yX1_hasGlove yX1_hasGlove, Cond.initialized RX1, Cond.code yX1_hasGlove cX1_hasGlove 2 (some .boolean), Cond.fieldLink RX1 34 "GloveReply$Desk" "gloveCount" "I", Cond.methodLink RX6 126 yX1_roomOf, Cond.instanceMethod yX1_roomOf, Cond.selects RX1 yX1_roomOf yX1_roomOf, Cond.code yX1_roomOf cX1_roomOf 2 (some .int), Cond.fieldLink RX1 21 "GloveReply$Desk" "room" "[I", Cond.static yX6_at, Cond.initialized RX6, Cond.code yX6_at cX6_at 2 (some .int), Cond.methodLink RX6 129 yX1_kindOf, Cond.instanceMethod yX1_kindOf, Cond.selects RX1 yX1_kindOf yX1_kindOf, Cond.code yX1_kindOf cX1_kindOf 2 (some .int), Cond.fieldLink RX1 24 "GloveReply$Desk" "kind" "[I", Cond.methodLink RX6 132 yX2_keptBy, Cond.instanceMethod yX2_keptBy, Cond.selects RX2 yX2_keptBy yX2_keptBy]
def wsX6_glove_r2 : List Cond := [Cond.initialized RX2, Cond.code yX2_keptBy cX2_keptBy 2 (some .int), Cond.fieldLink RX2 9 "GloveReply$Moment" "kept" "[I", Cond.methodLink RX6 135 yX6_figuresIn, Cond.static yX6_figuresIn, Cond.code yX6_figuresIn cX6_figuresIn 3 (some .int), Cond.methodLink RX6 138 yX2_wearerOf, Cond.instanceMethod yX2_wearerOf, Cond.selects RX2 yX2_wearerOf yX2_wearerOf, Cond.code yX2_wearerOf cX2_wearerOf 2 (some .int), Cond.fieldLink RX2 15 "GloveReply$Moment" "wearer" "[I"]
def wsX6_glove : List Cond := .code yX6_glove cX6_glove 3 (some .int) :: ((wsX6_glove_r1 ++ wsX6_glove_r2) ++ wsX60 ++ wsX10 ++ wsX20)
def wsX6_wear_r1 : List Cond := [Cond.fieldLink RX6 19 "GloveReply" "theDesk" "LGloveReply$Desk;", Cond.fieldLink RX6 26 "GloveReply" "now" "LGloveReply$Moment;", Cond.fieldLink RX6 36 "GloveReply" "acts" "LGloveReply$Acts;", Cond.methodLink RX6 123 yX1_hasGlove, Cond.instanceMethod yX1_hasGlove, Cond.selects RX1 yX1_hasGlove yX1_hasGlove, Cond.initialized RX1, Cond.code yX1_hasGlove cX1_hasGlove 2 (some .boolean), Cond.fieldLink RX1 34 "GloveReply$Desk" "gloveCount" "I", Cond.methodLink RX6 106 yX1_hasPerson, Cond.instanceMethod yX1_hasPerson, Cond.selects RX1 yX1_hasPerson yX1_hasPerson, Cond.code yX1_hasPerson cX1_hasPerson 2 (some .boolean), Cond.fieldLink RX1 30 "GloveReply$Desk" "personCount" "I", Cond.methodLink RX6 141 yX2_isWorn, Cond.instanceMethod yX2_isWorn, Cond.selects RX2 yX2_isWorn yX2_isWorn, Cond.initialized RX2, Cond.code yX2_isWorn cX2_isWorn 2 (some .boolean), Cond.methodLink RX2 44 yX2_wearerOf, Cond.instanceMethod yX2_wearerOf, Cond.selects RX2 yX2_wearerOf yX2_wearerOf, Cond.code yX2_wearerOf cX2_wearerOf 2 (some .int), Cond.fieldLink RX2 15 "GloveReply$Moment" "wearer" "[I"]
def wsX6_wear_r2 : List Cond := [Cond.static yX6_at, Cond.initialized RX6, Cond.code yX6_at cX6_at 2 (some .int), Cond.methodLink RX6 120 yX2_gloveOn, Cond.instanceMethod yX2_gloveOn, Cond.selects RX2 yX2_gloveOn yX2_gloveOn, Cond.code yX2_gloveOn cX2_gloveOn 3 (some .int), Cond.methodLink RX6 144 yX0_add, Cond.instanceMethod yX0_add, Cond.selects RX0 yX0_add yX0_add, Cond.initialized RX0, Cond.code yX0_add cX0_add 3 none, Cond.fieldLink RX0 22 "GloveReply$Acts" "count" "I", Cond.fieldLink RX0 18 "GloveReply$Acts" "oldest" "I", Cond.methodLink RX0 25 yX0_placeAt, Cond.instanceMethod yX0_placeAt, Cond.selects RX0 yX0_placeAt yX0_placeAt, Cond.code yX0_placeAt cX0_placeAt 3 (some (.object "GloveReply$Moment")), Cond.fieldLink RX0 11 "GloveReply$Acts" "ring" "[LGloveReply$Moment;", Cond.methodLink RX0 29 yX2_copy, Cond.instanceMethod yX2_copy, Cond.selects RX2 yX2_copy yX2_copy, Cond.code yX2_copy cX2_copy 2 none, Cond.fieldLink RX2 9 "GloveReply$Moment" "kept" "[I"]
def wsX6_wear_r3 : List Cond := [Cond.fieldLink RX2 18 "GloveReply$Moment" "date" "I", Cond.fieldLink RX2 22 "GloveReply$Moment" "taken" "Z", Cond.static yX6_copyRow, Cond.code yX6_copyRow cX6_copyRow 3 none, Cond.methodLink RX6 147 yX2_putOn, Cond.instanceMethod yX2_putOn, Cond.selects RX2 yX2_putOn yX2_putOn, Cond.code yX2_putOn cX2_putOn 3 none, Cond.static yX6_put, Cond.code yX6_put cX6_put 3 none, Cond.methodLink RX6 132 yX2_keptBy, Cond.instanceMethod yX2_keptBy, Cond.selects RX2 yX2_keptBy yX2_keptBy, Cond.code yX2_keptBy cX2_keptBy 2 (some .int), Cond.methodLink RX6 151 yX1_reply, Cond.instanceMethod yX1_reply, Cond.selects RX1 yX1_reply yX1_reply, Cond.code yX1_reply cX1_reply 5 (some .int), Cond.static yX6_lastOf, Cond.code yX6_lastOf cX6_lastOf 1 (some .int), Cond.methodLink RX1 75 yX1_kindOf, Cond.instanceMethod yX1_kindOf, Cond.selects RX1 yX1_kindOf yX1_kindOf, Cond.code yX1_kindOf cX1_kindOf 2 (some .int)]
def wsX6_wear_r4 : List Cond := [Cond.fieldLink RX1 24 "GloveReply$Desk" "kind" "[I", Cond.static yX6_firstOf, Cond.code yX6_firstOf cX6_firstOf 1 (some .int), Cond.methodLink RX1 69 yX1_ownOf, Cond.instanceMethod yX1_ownOf, Cond.selects RX1 yX1_ownOf yX1_ownOf, Cond.code yX1_ownOf cX1_ownOf 2 (some .int), Cond.fieldLink RX1 9 "GloveReply$Desk" "own" "[I"]
def wsX6_wear : List Cond := .code yX6_wear cX6_wear 3 (some .int) :: ((wsX6_wear_r1 ++ (wsX6_wear_r2 ++ (wsX6_wear_r3 ++ wsX6_wear_r4))) ++ wsX60 ++ wsX10 ++ wsX20 ++ wsX00)
def wsX6_layDown_r1 : List Cond := [Cond.fieldLink RX6 19 "GloveReply" "theDesk" "LGloveReply$Desk;", Cond.fieldLink RX6 26 "GloveReply" "now" "LGloveReply$Moment;", Cond.methodLink RX6 132 yX2_keptBy, Cond.instanceMethod yX2_keptBy, Cond.selects RX2 yX2_keptBy yX2_keptBy, Cond.initialized RX2, Cond.code yX2_keptBy cX2_keptBy 2 (some .int), Cond.fieldLink RX2 9 "GloveReply$Moment" "kept" "[I", Cond.static yX6_at, Cond.initialized RX6, Cond.code yX6_at cX6_at 2 (some .int), Cond.methodLink RX6 138 yX2_wearerOf, Cond.instanceMethod yX2_wearerOf, Cond.selects RX2 yX2_wearerOf yX2_wearerOf, Cond.code yX2_wearerOf cX2_wearerOf 2 (some .int), Cond.fieldLink RX2 15 "GloveReply$Moment" "wearer" "[I", Cond.methodLink RX6 252 yX1_afterHand, Cond.instanceMethod yX1_afterHand, Cond.selects RX1 yX1_afterHand yX1_afterHand, Cond.initialized RX1, Cond.code yX1_afterHand cX1_afterHand 4 (some .int), Cond.methodLink RX1 69 yX1_ownOf, Cond.instanceMethod yX1_ownOf, Cond.selects RX1 yX1_ownOf yX1_ownOf]
def wsX6_layDown_r2 : List Cond := [Cond.code yX1_ownOf cX1_ownOf 2 (some .int), Cond.fieldLink RX1 9 "GloveReply$Desk" "own" "[I", Cond.methodLink RX1 81 yX1_roomOf, Cond.instanceMethod yX1_roomOf, Cond.selects RX1 yX1_roomOf yX1_roomOf, Cond.code yX1_roomOf cX1_roomOf 2 (some .int), Cond.fieldLink RX1 21 "GloveReply$Desk" "room" "[I", Cond.static yX6_withBehind, Cond.code yX6_withBehind cX6_withBehind 3 (some .int), Cond.methodLink RX6 161 yX2_setKept, Cond.instanceMethod yX2_setKept, Cond.selects RX2 yX2_setKept yX2_setKept, Cond.code yX2_setKept cX2_setKept 3 none, Cond.static yX6_put, Cond.code yX6_put cX6_put 3 none, Cond.methodLink RX6 147 yX2_putOn, Cond.instanceMethod yX2_putOn, Cond.selects RX2 yX2_putOn yX2_putOn, Cond.code yX2_putOn cX2_putOn 3 none]
def wsX6_layDown : List Cond := .code yX6_layDown cX6_layDown 3 none :: ((wsX6_layDown_r1 ++ wsX6_layDown_r2) ++ wsX60 ++ wsX20 ++ wsX10)
def wsX6_takeOff_r1 : List Cond := [Cond.fieldLink RX6 19 "GloveReply" "theDesk" "LGloveReply$Desk;", Cond.fieldLink RX6 26 "GloveReply" "now" "LGloveReply$Moment;", Cond.fieldLink RX6 36 "GloveReply" "acts" "LGloveReply$Acts;", Cond.methodLink RX6 123 yX1_hasGlove, Cond.instanceMethod yX1_hasGlove, Cond.selects RX1 yX1_hasGlove yX1_hasGlove, Cond.initialized RX1, Cond.code yX1_hasGlove cX1_hasGlove 2 (some .boolean), Cond.fieldLink RX1 34 "GloveReply$Desk" "gloveCount" "I", Cond.methodLink RX6 141 yX2_isWorn, Cond.instanceMethod yX2_isWorn, Cond.selects RX2 yX2_isWorn yX2_isWorn, Cond.initialized RX2, Cond.code yX2_isWorn cX2_isWorn 2 (some .boolean), Cond.methodLink RX2 44 yX2_wearerOf, Cond.instanceMethod yX2_wearerOf, Cond.selects RX2 yX2_wearerOf yX2_wearerOf, Cond.code yX2_wearerOf cX2_wearerOf 2 (some .int), Cond.fieldLink RX2 15 "GloveReply$Moment" "wearer" "[I", Cond.static yX6_at, Cond.initialized RX6, Cond.code yX6_at cX6_at 2 (some .int), Cond.methodLink RX6 144 yX0_add, Cond.instanceMethod yX0_add]
def wsX6_takeOff_r2 : List Cond := [Cond.selects RX0 yX0_add yX0_add, Cond.initialized RX0, Cond.code yX0_add cX0_add 3 none, Cond.fieldLink RX0 22 "GloveReply$Acts" "count" "I", Cond.fieldLink RX0 18 "GloveReply$Acts" "oldest" "I", Cond.methodLink RX0 25 yX0_placeAt, Cond.instanceMethod yX0_placeAt, Cond.selects RX0 yX0_placeAt yX0_placeAt, Cond.code yX0_placeAt cX0_placeAt 3 (some (.object "GloveReply$Moment")), Cond.fieldLink RX0 11 "GloveReply$Acts" "ring" "[LGloveReply$Moment;", Cond.methodLink RX0 29 yX2_copy, Cond.instanceMethod yX2_copy, Cond.selects RX2 yX2_copy yX2_copy, Cond.code yX2_copy cX2_copy 2 none, Cond.fieldLink RX2 9 "GloveReply$Moment" "kept" "[I", Cond.fieldLink RX2 18 "GloveReply$Moment" "date" "I", Cond.fieldLink RX2 22 "GloveReply$Moment" "taken" "Z", Cond.static yX6_copyRow, Cond.code yX6_copyRow cX6_copyRow 3 none, Cond.methodLink RX6 155 yX6_layDown, Cond.instanceMethod yX6_layDown, Cond.selects RX6 yX6_layDown yX6_layDown, Cond.code yX6_layDown cX6_layDown 3 none, Cond.methodLink RX6 132 yX2_keptBy]
def wsX6_takeOff_r3 : List Cond := [Cond.instanceMethod yX2_keptBy, Cond.selects RX2 yX2_keptBy yX2_keptBy, Cond.code yX2_keptBy cX2_keptBy 2 (some .int), Cond.methodLink RX6 138 yX2_wearerOf, Cond.methodLink RX6 252 yX1_afterHand, Cond.instanceMethod yX1_afterHand, Cond.selects RX1 yX1_afterHand yX1_afterHand, Cond.code yX1_afterHand cX1_afterHand 4 (some .int), Cond.methodLink RX1 69 yX1_ownOf, Cond.instanceMethod yX1_ownOf, Cond.selects RX1 yX1_ownOf yX1_ownOf, Cond.code yX1_ownOf cX1_ownOf 2 (some .int), Cond.fieldLink RX1 9 "GloveReply$Desk" "own" "[I", Cond.methodLink RX1 81 yX1_roomOf, Cond.instanceMethod yX1_roomOf, Cond.selects RX1 yX1_roomOf yX1_roomOf, Cond.code yX1_roomOf cX1_roomOf 2 (some .int), Cond.fieldLink RX1 21 "GloveReply$Desk" "room" "[I", Cond.static yX6_withBehind, Cond.code yX6_withBehind cX6_withBehind 3 (some .int), Cond.methodLink RX6 161 yX2_setKept, Cond.instanceMethod yX2_setKept, Cond.selects RX2 yX2_setKept yX2_setKept, Cond.code yX2_setKept cX2_setKept 3 none]
def wsX6_takeOff_r4 : List Cond := [Cond.static yX6_put, Cond.code yX6_put cX6_put 3 none, Cond.methodLink RX6 147 yX2_putOn, Cond.instanceMethod yX2_putOn, Cond.selects RX2 yX2_putOn yX2_putOn, Cond.code yX2_putOn cX2_putOn 3 none, Cond.methodLink RX6 135 yX6_figuresIn, Cond.static yX6_figuresIn, Cond.code yX6_figuresIn cX6_figuresIn 3 (some .int)]
def wsX6_takeOff : List Cond := .code yX6_takeOff cX6_takeOff 2 (some .int) :: ((wsX6_takeOff_r1 ++ (wsX6_takeOff_r2 ++ (wsX6_takeOff_r3 ++ wsX6_takeOff_r4))) ++ wsX60 ++ wsX10 ++ wsX20 ++ wsX00)
def wsX6_withoutLast : List Cond := .code yX6_withoutLast cX6_withoutLast 1 (some .int) :: ([])
def wsX6_wash_r1 : List Cond := [Cond.fieldLink RX6 19 "GloveReply" "theDesk" "LGloveReply$Desk;", Cond.fieldLink RX6 26 "GloveReply" "now" "LGloveReply$Moment;", Cond.fieldLink RX6 36 "GloveReply" "acts" "LGloveReply$Acts;", Cond.methodLink RX6 123 yX1_hasGlove, Cond.instanceMethod yX1_hasGlove, Cond.selects RX1 yX1_hasGlove yX1_hasGlove, Cond.initialized RX1, Cond.code yX1_hasGlove cX1_hasGlove 2 (some .boolean), Cond.fieldLink RX1 34 "GloveReply$Desk" "gloveCount" "I", Cond.methodLink RX6 132 yX2_keptBy, Cond.instanceMethod yX2_keptBy, Cond.selects RX2 yX2_keptBy yX2_keptBy, Cond.initialized RX2, Cond.code yX2_keptBy cX2_keptBy 2 (some .int), Cond.fieldLink RX2 9 "GloveReply$Moment" "kept" "[I", Cond.static yX6_at, Cond.initialized RX6, Cond.code yX6_at cX6_at 2 (some .int), Cond.methodLink RX6 141 yX2_isWorn, Cond.instanceMethod yX2_isWorn, Cond.selects RX2 yX2_isWorn yX2_isWorn, Cond.code yX2_isWorn cX2_isWorn 2 (some .boolean), Cond.methodLink RX2 44 yX2_wearerOf, Cond.instanceMethod yX2_wearerOf]
def wsX6_wash_r2 : List Cond := [Cond.selects RX2 yX2_wearerOf yX2_wearerOf, Cond.code yX2_wearerOf cX2_wearerOf 2 (some .int), Cond.fieldLink RX2 15 "GloveReply$Moment" "wearer" "[I", Cond.methodLink RX6 144 yX0_add, Cond.instanceMethod yX0_add, Cond.selects RX0 yX0_add yX0_add, Cond.initialized RX0, Cond.code yX0_add cX0_add 3 none, Cond.fieldLink RX0 22 "GloveReply$Acts" "count" "I", Cond.fieldLink RX0 18 "GloveReply$Acts" "oldest" "I", Cond.methodLink RX0 25 yX0_placeAt, Cond.instanceMethod yX0_placeAt, Cond.selects RX0 yX0_placeAt yX0_placeAt, Cond.code yX0_placeAt cX0_placeAt 3 (some (.object "GloveReply$Moment")), Cond.fieldLink RX0 11 "GloveReply$Acts" "ring" "[LGloveReply$Moment;", Cond.methodLink RX0 29 yX2_copy, Cond.instanceMethod yX2_copy, Cond.selects RX2 yX2_copy yX2_copy, Cond.code yX2_copy cX2_copy 2 none, Cond.fieldLink RX2 18 "GloveReply$Moment" "date" "I", Cond.fieldLink RX2 22 "GloveReply$Moment" "taken" "Z", Cond.static yX6_copyRow, Cond.code yX6_copyRow cX6_copyRow 3 none, Cond.methodLink RX6 158 yX6_withoutLast]
def wsX6_wash_r3 : List Cond := [Cond.static yX6_withoutLast, Cond.code yX6_withoutLast cX6_withoutLast 1 (some .int), Cond.methodLink RX6 161 yX2_setKept, Cond.instanceMethod yX2_setKept, Cond.selects RX2 yX2_setKept yX2_setKept, Cond.code yX2_setKept cX2_setKept 3 none, Cond.static yX6_put, Cond.code yX6_put cX6_put 3 none, Cond.methodLink RX6 164 yX6_lastOf, Cond.static yX6_lastOf, Cond.code yX6_lastOf cX6_lastOf 1 (some .int)]
def wsX6_wash : List Cond := .code yX6_wash cX6_wash 3 (some .int) :: ((wsX6_wash_r1 ++ (wsX6_wash_r2 ++ wsX6_wash_r3)) ++ wsX60 ++ wsX10 ++ wsX20 ++ wsX00)
def wsX6_day_r1 : List Cond := [Cond.fieldLink RX6 36 "GloveReply" "acts" "LGloveReply$Acts;", Cond.fieldLink RX6 26 "GloveReply" "now" "LGloveReply$Moment;", Cond.fieldLink RX6 19 "GloveReply" "theDesk" "LGloveReply$Desk;", Cond.methodLink RX6 144 yX0_add, Cond.instanceMethod yX0_add, Cond.selects RX0 yX0_add yX0_add, Cond.initialized RX0, Cond.code yX0_add cX0_add 3 none, Cond.fieldLink RX0 22 "GloveReply$Acts" "count" "I", Cond.fieldLink RX0 18 "GloveReply$Acts" "oldest" "I", Cond.methodLink RX0 25 yX0_placeAt, Cond.instanceMethod yX0_placeAt, Cond.selects RX0 yX0_placeAt yX0_placeAt, Cond.code yX0_placeAt cX0_placeAt 3 (some (.object "GloveReply$Moment")), Cond.fieldLink RX0 11 "GloveReply$Acts" "ring" "[LGloveReply$Moment;", Cond.methodLink RX0 29 yX2_copy, Cond.instanceMethod yX2_copy, Cond.selects RX2 yX2_copy yX2_copy, Cond.initialized RX2, Cond.code yX2_copy cX2_copy 2 none, Cond.fieldLink RX2 9 "GloveReply$Moment" "kept" "[I", Cond.fieldLink RX2 15 "GloveReply$Moment" "wearer" "[I", Cond.fieldLink RX2 18 "GloveReply$Moment" "date" "I", Cond.fieldLink RX2 22 "GloveReply$Moment" "taken" "Z"]
def wsX6_day_r2 : List Cond := [Cond.static yX6_copyRow, Cond.initialized RX6, Cond.code yX6_copyRow cX6_copyRow 3 none, Cond.methodLink RX6 95 yX1_gloves, Cond.instanceMethod yX1_gloves, Cond.selects RX1 yX1_gloves yX1_gloves, Cond.initialized RX1, Cond.code yX1_gloves cX1_gloves 1 (some .int), Cond.fieldLink RX1 34 "GloveReply$Desk" "gloveCount" "I", Cond.methodLink RX6 141 yX2_isWorn, Cond.instanceMethod yX2_isWorn, Cond.selects RX2 yX2_isWorn yX2_isWorn, Cond.code yX2_isWorn cX2_isWorn 2 (some .boolean), Cond.methodLink RX2 44 yX2_wearerOf, Cond.instanceMethod yX2_wearerOf, Cond.selects RX2 yX2_wearerOf yX2_wearerOf, Cond.code yX2_wearerOf cX2_wearerOf 2 (some .int), Cond.static yX6_at, Cond.code yX6_at cX6_at 2 (some .int), Cond.methodLink RX6 155 yX6_layDown, Cond.instanceMethod yX6_layDown, Cond.selects RX6 yX6_layDown yX6_layDown, Cond.code yX6_layDown cX6_layDown 3 none, Cond.methodLink RX6 132 yX2_keptBy]
def wsX6_day_r3 : List Cond := [Cond.instanceMethod yX2_keptBy, Cond.selects RX2 yX2_keptBy yX2_keptBy, Cond.code yX2_keptBy cX2_keptBy 2 (some .int), Cond.methodLink RX6 138 yX2_wearerOf, Cond.methodLink RX6 252 yX1_afterHand, Cond.instanceMethod yX1_afterHand, Cond.selects RX1 yX1_afterHand yX1_afterHand, Cond.code yX1_afterHand cX1_afterHand 4 (some .int), Cond.methodLink RX1 69 yX1_ownOf, Cond.instanceMethod yX1_ownOf, Cond.selects RX1 yX1_ownOf yX1_ownOf, Cond.code yX1_ownOf cX1_ownOf 2 (some .int), Cond.fieldLink RX1 9 "GloveReply$Desk" "own" "[I", Cond.methodLink RX1 81 yX1_roomOf, Cond.instanceMethod yX1_roomOf, Cond.selects RX1 yX1_roomOf yX1_roomOf, Cond.code yX1_roomOf cX1_roomOf 2 (some .int), Cond.fieldLink RX1 21 "GloveReply$Desk" "room" "[I", Cond.static yX6_withBehind, Cond.code yX6_withBehind cX6_withBehind 3 (some .int), Cond.methodLink RX6 161 yX2_setKept, Cond.instanceMethod yX2_setKept, Cond.selects RX2 yX2_setKept yX2_setKept, Cond.code yX2_setKept cX2_setKept 3 none]
def wsX6_day_r4 : List Cond := [Cond.static yX6_put, Cond.code yX6_put cX6_put 3 none, Cond.methodLink RX6 147 yX2_putOn, Cond.instanceMethod yX2_putOn, Cond.selects RX2 yX2_putOn yX2_putOn, Cond.code yX2_putOn cX2_putOn 3 none, Cond.methodLink RX6 167 yX2_nextDay, Cond.instanceMethod yX2_nextDay, Cond.selects RX2 yX2_nextDay yX2_nextDay, Cond.code yX2_nextDay cX2_nextDay 1 none]
def wsX6_day : List Cond := .code yX6_day cX6_day 3 (some .int) :: ((wsX6_day_r1 ++ (wsX6_day_r2 ++ (wsX6_day_r3 ++ wsX6_day_r4))) ++ wsX60 ++ wsX00 ++ wsX20 ++ wsX10)
def wsX6_undo_r1 : List Cond := [Cond.fieldLink RX6 36 "GloveReply" "acts" "LGloveReply$Acts;", Cond.fieldLink RX6 26 "GloveReply" "now" "LGloveReply$Moment;", Cond.methodLink RX6 104 yX0_size, Cond.instanceMethod yX0_size, Cond.selects RX0 yX0_size yX0_size, Cond.initialized RX0, Cond.code yX0_size cX0_size 1 (some .int), Cond.fieldLink RX0 22 "GloveReply$Acts" "count" "I", Cond.methodLink RX6 170 yX0_giveBackLast, Cond.instanceMethod yX0_giveBackLast, Cond.selects RX0 yX0_giveBackLast yX0_giveBackLast, Cond.code yX0_giveBackLast cX0_giveBackLast 3 none, Cond.methodLink RX0 25 yX0_placeAt, Cond.instanceMethod yX0_placeAt, Cond.selects RX0 yX0_placeAt yX0_placeAt, Cond.code yX0_placeAt cX0_placeAt 3 (some (.object "GloveReply$Moment")), Cond.fieldLink RX0 18 "GloveReply$Acts" "oldest" "I", Cond.fieldLink RX0 11 "GloveReply$Acts" "ring" "[LGloveReply$Moment;", Cond.methodLink RX0 29 yX2_copy, Cond.instanceMethod yX2_copy, Cond.selects RX2 yX2_copy yX2_copy, Cond.initialized RX2, Cond.code yX2_copy cX2_copy 2 none, Cond.fieldLink RX2 9 "GloveReply$Moment" "kept" "[I"]
def wsX6_undo_r2 : List Cond := [Cond.fieldLink RX2 15 "GloveReply$Moment" "wearer" "[I", Cond.fieldLink RX2 18 "GloveReply$Moment" "date" "I", Cond.fieldLink RX2 22 "GloveReply$Moment" "taken" "Z", Cond.static yX6_copyRow, Cond.initialized RX6, Cond.code yX6_copyRow cX6_copyRow 3 none]
def wsX6_undo : List Cond := .code yX6_undo cX6_undo 1 (some .int) :: ((wsX6_undo_r1 ++ wsX6_undo_r2) ++ wsX60 ++ wsX00 ++ wsX20)
def wsX6_isRow : List Cond := .code yX6_isRow cX6_isRow 5 (some .boolean) :: ([.fieldLink RX6 19 "GloveReply" "theDesk" "LGloveReply$Desk;", .methodLink RX6 106 yX1_hasPerson, .instanceMethod yX1_hasPerson, .selects RX1 yX1_hasPerson yX1_hasPerson, .initialized RX1, .code yX1_hasPerson cX1_hasPerson 2 (some .boolean), .fieldLink RX1 30 "GloveReply$Desk" "personCount" "I"] ++ wsX60 ++ wsX10)
def wsX6_turned : List Cond := .code yX6_turned cX6_turned 5 (some .int) :: ([])
def wsX6_replyToRow_r1 : List Cond := [Cond.fieldLink RX6 26 "GloveReply" "now" "LGloveReply$Moment;", Cond.fieldLink RX6 19 "GloveReply" "theDesk" "LGloveReply$Desk;", Cond.methodLink RX6 255 yX6_turned, Cond.static yX6_turned, Cond.initialized RX6, Cond.code yX6_turned cX6_turned 5 (some .int), Cond.methodLink RX6 132 yX2_keptBy, Cond.instanceMethod yX2_keptBy, Cond.selects RX2 yX2_keptBy yX2_keptBy, Cond.initialized RX2, Cond.code yX2_keptBy cX2_keptBy 2 (some .int), Cond.fieldLink RX2 9 "GloveReply$Moment" "kept" "[I", Cond.static yX6_at, Cond.code yX6_at cX6_at 2 (some .int), Cond.methodLink RX6 252 yX1_afterHand, Cond.instanceMethod yX1_afterHand, Cond.selects RX1 yX1_afterHand yX1_afterHand, Cond.initialized RX1, Cond.code yX1_afterHand cX1_afterHand 4 (some .int), Cond.methodLink RX1 69 yX1_ownOf, Cond.instanceMethod yX1_ownOf, Cond.selects RX1 yX1_ownOf yX1_ownOf, Cond.code yX1_ownOf cX1_ownOf 2 (some .int), Cond.fieldLink RX1 9 "GloveReply$Desk" "own" "[I"]
def wsX6_replyToRow_r2 : List Cond := [Cond.methodLink RX1 81 yX1_roomOf, Cond.instanceMethod yX1_roomOf, Cond.selects RX1 yX1_roomOf yX1_roomOf, Cond.code yX1_roomOf cX1_roomOf 2 (some .int), Cond.fieldLink RX1 21 "GloveReply$Desk" "room" "[I", Cond.static yX6_withBehind, Cond.code yX6_withBehind cX6_withBehind 3 (some .int), Cond.methodLink RX6 151 yX1_reply, Cond.instanceMethod yX1_reply, Cond.selects RX1 yX1_reply yX1_reply, Cond.code yX1_reply cX1_reply 5 (some .int), Cond.static yX6_lastOf, Cond.code yX6_lastOf cX6_lastOf 1 (some .int), Cond.methodLink RX1 75 yX1_kindOf, Cond.instanceMethod yX1_kindOf, Cond.selects RX1 yX1_kindOf yX1_kindOf, Cond.code yX1_kindOf cX1_kindOf 2 (some .int), Cond.fieldLink RX1 24 "GloveReply$Desk" "kind" "[I", Cond.static yX6_firstOf, Cond.code yX6_firstOf cX6_firstOf 1 (some .int)]
def wsX6_replyToRow : List Cond := .code yX6_replyToRow cX6_replyToRow 7 (some .int) :: ((wsX6_replyToRow_r1 ++ wsX6_replyToRow_r2) ++ wsX60 ++ wsX20 ++ wsX10)
def wsX6_does_r1 : List Cond := [Cond.fieldLink RX6 19 "GloveReply" "theDesk" "LGloveReply$Desk;", Cond.fieldLink RX6 26 "GloveReply" "now" "LGloveReply$Moment;", Cond.methodLink RX6 123 yX1_hasGlove, Cond.instanceMethod yX1_hasGlove, Cond.selects RX1 yX1_hasGlove yX1_hasGlove, Cond.initialized RX1, Cond.code yX1_hasGlove cX1_hasGlove 2 (some .boolean), Cond.fieldLink RX1 34 "GloveReply$Desk" "gloveCount" "I", Cond.methodLink RX6 62 yX6_within, Cond.static yX6_within, Cond.initialized RX6, Cond.code yX6_within cX6_within 3 (some .boolean), Cond.methodLink RX6 173 yX6_isRow, Cond.instanceMethod yX6_isRow, Cond.selects RX6 yX6_isRow yX6_isRow, Cond.code yX6_isRow cX6_isRow 5 (some .boolean), Cond.methodLink RX6 106 yX1_hasPerson, Cond.instanceMethod yX1_hasPerson, Cond.selects RX1 yX1_hasPerson yX1_hasPerson, Cond.code yX1_hasPerson cX1_hasPerson 2 (some .boolean), Cond.fieldLink RX1 30 "GloveReply$Desk" "personCount" "I", Cond.methodLink RX6 141 yX2_isWorn, Cond.instanceMethod yX2_isWorn, Cond.selects RX2 yX2_isWorn yX2_isWorn]
def wsX6_does_r2 : List Cond := [Cond.initialized RX2, Cond.code yX2_isWorn cX2_isWorn 2 (some .boolean), Cond.methodLink RX2 44 yX2_wearerOf, Cond.instanceMethod yX2_wearerOf, Cond.selects RX2 yX2_wearerOf yX2_wearerOf, Cond.code yX2_wearerOf cX2_wearerOf 2 (some .int), Cond.fieldLink RX2 15 "GloveReply$Moment" "wearer" "[I", Cond.static yX6_at, Cond.code yX6_at cX6_at 2 (some .int), Cond.methodLink RX6 177 yX6_replyToRow, Cond.instanceMethod yX6_replyToRow, Cond.selects RX6 yX6_replyToRow yX6_replyToRow, Cond.code yX6_replyToRow cX6_replyToRow 7 (some .int), Cond.methodLink RX6 255 yX6_turned, Cond.static yX6_turned, Cond.code yX6_turned cX6_turned 5 (some .int), Cond.methodLink RX6 132 yX2_keptBy, Cond.instanceMethod yX2_keptBy, Cond.selects RX2 yX2_keptBy yX2_keptBy, Cond.code yX2_keptBy cX2_keptBy 2 (some .int), Cond.fieldLink RX2 9 "GloveReply$Moment" "kept" "[I", Cond.methodLink RX6 252 yX1_afterHand, Cond.instanceMethod yX1_afterHand, Cond.selects RX1 yX1_afterHand yX1_afterHand]
def wsX6_does_r3 : List Cond := [Cond.code yX1_afterHand cX1_afterHand 4 (some .int), Cond.methodLink RX1 69 yX1_ownOf, Cond.instanceMethod yX1_ownOf, Cond.selects RX1 yX1_ownOf yX1_ownOf, Cond.code yX1_ownOf cX1_ownOf 2 (some .int), Cond.fieldLink RX1 9 "GloveReply$Desk" "own" "[I", Cond.methodLink RX1 81 yX1_roomOf, Cond.instanceMethod yX1_roomOf, Cond.selects RX1 yX1_roomOf yX1_roomOf, Cond.code yX1_roomOf cX1_roomOf 2 (some .int), Cond.fieldLink RX1 21 "GloveReply$Desk" "room" "[I", Cond.static yX6_withBehind, Cond.code yX6_withBehind cX6_withBehind 3 (some .int), Cond.methodLink RX6 151 yX1_reply, Cond.instanceMethod yX1_reply, Cond.selects RX1 yX1_reply yX1_reply, Cond.code yX1_reply cX1_reply 5 (some .int), Cond.static yX6_lastOf, Cond.code yX6_lastOf cX6_lastOf 1 (some .int), Cond.methodLink RX1 75 yX1_kindOf, Cond.instanceMethod yX1_kindOf, Cond.selects RX1 yX1_kindOf yX1_kindOf, Cond.code yX1_kindOf cX1_kindOf 2 (some .int), Cond.fieldLink RX1 24 "GloveReply$Desk" "kind" "[I"]
def wsX6_does_r4 : List Cond := [Cond.static yX6_firstOf, Cond.code yX6_firstOf cX6_firstOf 1 (some .int)]
def wsX6_does : List Cond := .code yX6_does cX6_does 4 (some .int) :: ((wsX6_does_r1 ++ (wsX6_does_r2 ++ (wsX6_does_r3 ++ wsX6_does_r4))) ++ wsX60 ++ wsX10 ++ wsX20)
def wsX6_isChoice : List Cond := .code yX6_isChoice cX6_isChoice 1 (some .boolean) :: ([.methodLink RX6 62 yX6_within, .static yX6_within, .initialized RX6, .code yX6_within cX6_within 3 (some .boolean)])
def wsX6_firstRow_r1 : List Cond := [Cond.methodLink RX6 92 yX1_people, Cond.instanceMethod yX1_people, Cond.selects RX1 yX1_people yX1_people, Cond.initialized RX1, Cond.code yX1_people cX1_people 1 (some .int), Cond.fieldLink RX1 30 "GloveReply$Desk" "personCount" "I", Cond.methodLink RX6 252 yX1_afterHand, Cond.instanceMethod yX1_afterHand, Cond.selects RX1 yX1_afterHand yX1_afterHand, Cond.code yX1_afterHand cX1_afterHand 4 (some .int), Cond.methodLink RX1 69 yX1_ownOf, Cond.instanceMethod yX1_ownOf, Cond.selects RX1 yX1_ownOf yX1_ownOf, Cond.code yX1_ownOf cX1_ownOf 2 (some .int), Cond.fieldLink RX1 9 "GloveReply$Desk" "own" "[I", Cond.static yX6_at, Cond.initialized RX6, Cond.code yX6_at cX6_at 2 (some .int), Cond.methodLink RX1 81 yX1_roomOf, Cond.instanceMethod yX1_roomOf, Cond.selects RX1 yX1_roomOf yX1_roomOf, Cond.code yX1_roomOf cX1_roomOf 2 (some .int), Cond.fieldLink RX1 21 "GloveReply$Desk" "room" "[I", Cond.static yX6_withBehind]
def wsX6_firstRow_r2 : List Cond := [Cond.code yX6_withBehind cX6_withBehind 3 (some .int), Cond.methodLink RX6 183 yX6_firstRow, Cond.static yX6_firstRow, Cond.methodLink RX6 151 yX1_reply, Cond.instanceMethod yX1_reply, Cond.selects RX1 yX1_reply yX1_reply, Cond.code yX1_reply cX1_reply 5 (some .int), Cond.static yX6_lastOf, Cond.code yX6_lastOf cX6_lastOf 1 (some .int), Cond.methodLink RX1 75 yX1_kindOf, Cond.instanceMethod yX1_kindOf, Cond.selects RX1 yX1_kindOf yX1_kindOf, Cond.code yX1_kindOf cX1_kindOf 2 (some .int), Cond.fieldLink RX1 24 "GloveReply$Desk" "kind" "[I", Cond.static yX6_firstOf, Cond.code yX6_firstOf cX6_firstOf 1 (some .int)]
def wsX6_firstRow : List Cond := .code yX6_firstRow cX6_firstRow 10 (some .int) :: ((wsX6_firstRow_r1 ++ wsX6_firstRow_r2) ++ wsX10)
def wsX6_comes_r1 : List Cond := [Cond.fieldLink RX6 19 "GloveReply" "theDesk" "LGloveReply$Desk;", Cond.fieldLink RX6 26 "GloveReply" "now" "LGloveReply$Moment;", Cond.methodLink RX6 123 yX1_hasGlove, Cond.instanceMethod yX1_hasGlove, Cond.selects RX1 yX1_hasGlove yX1_hasGlove, Cond.initialized RX1, Cond.code yX1_hasGlove cX1_hasGlove 2 (some .boolean), Cond.fieldLink RX1 34 "GloveReply$Desk" "gloveCount" "I", Cond.methodLink RX6 62 yX6_within, Cond.static yX6_within, Cond.initialized RX6, Cond.code yX6_within cX6_within 3 (some .boolean), Cond.methodLink RX6 180 yX6_isChoice, Cond.static yX6_isChoice, Cond.code yX6_isChoice cX6_isChoice 1 (some .boolean), Cond.methodLink RX6 141 yX2_isWorn, Cond.instanceMethod yX2_isWorn, Cond.selects RX2 yX2_isWorn yX2_isWorn, Cond.initialized RX2, Cond.code yX2_isWorn cX2_isWorn 2 (some .boolean), Cond.methodLink RX2 44 yX2_wearerOf, Cond.instanceMethod yX2_wearerOf, Cond.selects RX2 yX2_wearerOf yX2_wearerOf, Cond.code yX2_wearerOf cX2_wearerOf 2 (some .int)]
def wsX6_comes_r2 : List Cond := [Cond.fieldLink RX2 15 "GloveReply$Moment" "wearer" "[I", Cond.static yX6_at, Cond.code yX6_at cX6_at 2 (some .int), Cond.methodLink RX6 132 yX2_keptBy, Cond.instanceMethod yX2_keptBy, Cond.selects RX2 yX2_keptBy yX2_keptBy, Cond.code yX2_keptBy cX2_keptBy 2 (some .int), Cond.fieldLink RX2 9 "GloveReply$Moment" "kept" "[I", Cond.methodLink RX6 183 yX6_firstRow, Cond.static yX6_firstRow, Cond.code yX6_firstRow cX6_firstRow 10 (some .int), Cond.methodLink RX6 92 yX1_people, Cond.instanceMethod yX1_people, Cond.selects RX1 yX1_people yX1_people, Cond.code yX1_people cX1_people 1 (some .int), Cond.fieldLink RX1 30 "GloveReply$Desk" "personCount" "I", Cond.methodLink RX6 252 yX1_afterHand, Cond.instanceMethod yX1_afterHand, Cond.selects RX1 yX1_afterHand yX1_afterHand, Cond.code yX1_afterHand cX1_afterHand 4 (some .int), Cond.methodLink RX1 69 yX1_ownOf, Cond.instanceMethod yX1_ownOf, Cond.selects RX1 yX1_ownOf yX1_ownOf, Cond.code yX1_ownOf cX1_ownOf 2 (some .int)]
def wsX6_comes_r3 : List Cond := [Cond.fieldLink RX1 9 "GloveReply$Desk" "own" "[I", Cond.methodLink RX1 81 yX1_roomOf, Cond.instanceMethod yX1_roomOf, Cond.selects RX1 yX1_roomOf yX1_roomOf, Cond.code yX1_roomOf cX1_roomOf 2 (some .int), Cond.fieldLink RX1 21 "GloveReply$Desk" "room" "[I", Cond.static yX6_withBehind, Cond.code yX6_withBehind cX6_withBehind 3 (some .int), Cond.methodLink RX6 151 yX1_reply, Cond.instanceMethod yX1_reply, Cond.selects RX1 yX1_reply yX1_reply, Cond.code yX1_reply cX1_reply 5 (some .int), Cond.static yX6_lastOf, Cond.code yX6_lastOf cX6_lastOf 1 (some .int), Cond.methodLink RX1 75 yX1_kindOf, Cond.instanceMethod yX1_kindOf, Cond.selects RX1 yX1_kindOf yX1_kindOf, Cond.code yX1_kindOf cX1_kindOf 2 (some .int), Cond.fieldLink RX1 24 "GloveReply$Desk" "kind" "[I", Cond.static yX6_firstOf, Cond.code yX6_firstOf cX6_firstOf 1 (some .int)]
def wsX6_comes : List Cond := .code yX6_comes cX6_comes 6 (some .int) :: ((wsX6_comes_r1 ++ (wsX6_comes_r2 ++ wsX6_comes_r3)) ++ wsX60 ++ wsX10 ++ wsX20)
def wsX6_hasFigure : List Cond := .code yX6_hasFigure cX6_hasFigure 3 (some .boolean) :: ([])
def wsX6_tallyRounds_r1 : List Cond := [Cond.methodLink RX6 221 yX4_add, Cond.instanceMethod yX4_add, Cond.selects RX4 yX4_add yX4_add, Cond.initialized RX4, Cond.code yX4_add cX4_add 2 none, Cond.fieldLink RX4 9 "GloveReply$Tally" "count" "I", Cond.fieldLink RX4 15 "GloveReply$Tally" "first" "I", Cond.methodLink RX6 92 yX1_people, Cond.instanceMethod yX1_people, Cond.selects RX1 yX1_people yX1_people, Cond.initialized RX1, Cond.code yX1_people cX1_people 1 (some .int), Cond.fieldLink RX1 30 "GloveReply$Desk" "personCount" "I", Cond.methodLink RX6 151 yX1_reply, Cond.instanceMethod yX1_reply, Cond.selects RX1 yX1_reply yX1_reply, Cond.code yX1_reply cX1_reply 5 (some .int), Cond.static yX6_lastOf, Cond.initialized RX6, Cond.code yX6_lastOf cX6_lastOf 1 (some .int), Cond.methodLink RX1 75 yX1_kindOf, Cond.instanceMethod yX1_kindOf, Cond.selects RX1 yX1_kindOf yX1_kindOf, Cond.code yX1_kindOf cX1_kindOf 2 (some .int)]
def wsX6_tallyRounds_r2 : List Cond := [Cond.fieldLink RX1 24 "GloveReply$Desk" "kind" "[I", Cond.static yX6_at, Cond.code yX6_at cX6_at 2 (some .int), Cond.static yX6_firstOf, Cond.code yX6_firstOf cX6_firstOf 1 (some .int), Cond.methodLink RX1 69 yX1_ownOf, Cond.instanceMethod yX1_ownOf, Cond.selects RX1 yX1_ownOf yX1_ownOf, Cond.code yX1_ownOf cX1_ownOf 2 (some .int), Cond.fieldLink RX1 9 "GloveReply$Desk" "own" "[I", Cond.methodLink RX6 258 yX6_hasFigure, Cond.static yX6_hasFigure, Cond.code yX6_hasFigure cX6_hasFigure 3 (some .boolean), Cond.methodLink RX6 252 yX1_afterHand, Cond.instanceMethod yX1_afterHand, Cond.selects RX1 yX1_afterHand yX1_afterHand, Cond.code yX1_afterHand cX1_afterHand 4 (some .int), Cond.methodLink RX1 81 yX1_roomOf, Cond.instanceMethod yX1_roomOf, Cond.selects RX1 yX1_roomOf yX1_roomOf, Cond.code yX1_roomOf cX1_roomOf 2 (some .int), Cond.fieldLink RX1 21 "GloveReply$Desk" "room" "[I", Cond.static yX6_withBehind, Cond.code yX6_withBehind cX6_withBehind 3 (some .int)]
def wsX6_tallyRounds_r3 : List Cond := [Cond.methodLink RX6 189 yX6_tallyRounds, Cond.static yX6_tallyRounds]
def wsX6_tallyRounds : List Cond := .code yX6_tallyRounds cX6_tallyRounds 10 none :: ((wsX6_tallyRounds_r1 ++ (wsX6_tallyRounds_r2 ++ wsX6_tallyRounds_r3)) ++ wsX40 ++ wsX10)
def wsX6_rounds_r1 : List Cond := [Cond.fieldLink RX6 19 "GloveReply" "theDesk" "LGloveReply$Desk;", Cond.fieldLink RX6 26 "GloveReply" "now" "LGloveReply$Moment;", Cond.fieldLink RX6 50 "GloveReply" "tally" "LGloveReply$Tally;", Cond.methodLink RX6 123 yX1_hasGlove, Cond.instanceMethod yX1_hasGlove, Cond.selects RX1 yX1_hasGlove yX1_hasGlove, Cond.initialized RX1, Cond.code yX1_hasGlove cX1_hasGlove 2 (some .boolean), Cond.fieldLink RX1 34 "GloveReply$Desk" "gloveCount" "I", Cond.methodLink RX6 180 yX6_isChoice, Cond.static yX6_isChoice, Cond.initialized RX6, Cond.code yX6_isChoice cX6_isChoice 1 (some .boolean), Cond.methodLink RX6 62 yX6_within, Cond.static yX6_within, Cond.code yX6_within cX6_within 3 (some .boolean), Cond.methodLink RX6 141 yX2_isWorn, Cond.instanceMethod yX2_isWorn, Cond.selects RX2 yX2_isWorn yX2_isWorn, Cond.initialized RX2, Cond.code yX2_isWorn cX2_isWorn 2 (some .boolean), Cond.methodLink RX2 44 yX2_wearerOf, Cond.instanceMethod yX2_wearerOf, Cond.selects RX2 yX2_wearerOf yX2_wearerOf]
def wsX6_rounds_r2 : List Cond := [Cond.code yX2_wearerOf cX2_wearerOf 2 (some .int), Cond.fieldLink RX2 15 "GloveReply$Moment" "wearer" "[I", Cond.static yX6_at, Cond.code yX6_at cX6_at 2 (some .int), Cond.methodLink RX6 187 yX4_start, Cond.instanceMethod yX4_start, Cond.selects RX4 yX4_start yX4_start, Cond.initialized RX4, Cond.code yX4_start cX4_start 1 none, Cond.fieldLink RX4 9 "GloveReply$Tally" "count" "I", Cond.fieldLink RX4 15 "GloveReply$Tally" "first" "I", Cond.methodLink RX6 132 yX2_keptBy, Cond.instanceMethod yX2_keptBy, Cond.selects RX2 yX2_keptBy yX2_keptBy, Cond.code yX2_keptBy cX2_keptBy 2 (some .int), Cond.fieldLink RX2 9 "GloveReply$Moment" "kept" "[I", Cond.methodLink RX6 92 yX1_people, Cond.instanceMethod yX1_people, Cond.selects RX1 yX1_people yX1_people, Cond.code yX1_people cX1_people 1 (some .int), Cond.fieldLink RX1 30 "GloveReply$Desk" "personCount" "I", Cond.methodLink RX6 189 yX6_tallyRounds, Cond.static yX6_tallyRounds, Cond.code yX6_tallyRounds cX6_tallyRounds 10 none]
def wsX6_rounds_r3 : List Cond := [Cond.methodLink RX6 221 yX4_add, Cond.instanceMethod yX4_add, Cond.selects RX4 yX4_add yX4_add, Cond.code yX4_add cX4_add 2 none, Cond.methodLink RX6 151 yX1_reply, Cond.instanceMethod yX1_reply, Cond.selects RX1 yX1_reply yX1_reply, Cond.code yX1_reply cX1_reply 5 (some .int), Cond.static yX6_lastOf, Cond.code yX6_lastOf cX6_lastOf 1 (some .int), Cond.methodLink RX1 75 yX1_kindOf, Cond.instanceMethod yX1_kindOf, Cond.selects RX1 yX1_kindOf yX1_kindOf, Cond.code yX1_kindOf cX1_kindOf 2 (some .int), Cond.fieldLink RX1 24 "GloveReply$Desk" "kind" "[I", Cond.static yX6_firstOf, Cond.code yX6_firstOf cX6_firstOf 1 (some .int), Cond.methodLink RX1 69 yX1_ownOf, Cond.instanceMethod yX1_ownOf, Cond.selects RX1 yX1_ownOf yX1_ownOf, Cond.code yX1_ownOf cX1_ownOf 2 (some .int), Cond.fieldLink RX1 9 "GloveReply$Desk" "own" "[I", Cond.methodLink RX6 258 yX6_hasFigure, Cond.static yX6_hasFigure]
def wsX6_rounds_r4 : List Cond := [Cond.code yX6_hasFigure cX6_hasFigure 3 (some .boolean), Cond.methodLink RX6 252 yX1_afterHand, Cond.instanceMethod yX1_afterHand, Cond.selects RX1 yX1_afterHand yX1_afterHand, Cond.code yX1_afterHand cX1_afterHand 4 (some .int), Cond.methodLink RX1 81 yX1_roomOf, Cond.instanceMethod yX1_roomOf, Cond.selects RX1 yX1_roomOf yX1_roomOf, Cond.code yX1_roomOf cX1_roomOf 2 (some .int), Cond.fieldLink RX1 21 "GloveReply$Desk" "room" "[I", Cond.static yX6_withBehind, Cond.code yX6_withBehind cX6_withBehind 3 (some .int), Cond.methodLink RX6 193 yX4_told, Cond.instanceMethod yX4_told, Cond.selects RX4 yX4_told yX4_told, Cond.code yX4_told cX4_told 2 (some .int)]
def wsX6_rounds : List Cond := .code yX6_rounds cX6_rounds 3 (some .int) :: ((wsX6_rounds_r1 ++ (wsX6_rounds_r2 ++ (wsX6_rounds_r3 ++ wsX6_rounds_r4))) ++ wsX60 ++ wsX10 ++ wsX20 ++ wsX40)
def wsX6_givesAway_r1 : List Cond := [Cond.fieldLink RX6 19 "GloveReply" "theDesk" "LGloveReply$Desk;", Cond.fieldLink RX6 26 "GloveReply" "now" "LGloveReply$Moment;", Cond.methodLink RX6 123 yX1_hasGlove, Cond.instanceMethod yX1_hasGlove, Cond.selects RX1 yX1_hasGlove yX1_hasGlove, Cond.initialized RX1, Cond.code yX1_hasGlove cX1_hasGlove 2 (some .boolean), Cond.fieldLink RX1 34 "GloveReply$Desk" "gloveCount" "I", Cond.methodLink RX6 141 yX2_isWorn, Cond.instanceMethod yX2_isWorn, Cond.selects RX2 yX2_isWorn yX2_isWorn, Cond.initialized RX2, Cond.code yX2_isWorn cX2_isWorn 2 (some .boolean), Cond.methodLink RX2 44 yX2_wearerOf, Cond.instanceMethod yX2_wearerOf, Cond.selects RX2 yX2_wearerOf yX2_wearerOf, Cond.code yX2_wearerOf cX2_wearerOf 2 (some .int), Cond.fieldLink RX2 15 "GloveReply$Moment" "wearer" "[I", Cond.static yX6_at, Cond.initialized RX6, Cond.code yX6_at cX6_at 2 (some .int), Cond.methodLink RX6 92 yX1_people, Cond.instanceMethod yX1_people, Cond.selects RX1 yX1_people yX1_people]
def wsX6_givesAway_r2 : List Cond := [Cond.code yX1_people cX1_people 1 (some .int), Cond.fieldLink RX1 30 "GloveReply$Desk" "personCount" "I", Cond.methodLink RX6 132 yX2_keptBy, Cond.instanceMethod yX2_keptBy, Cond.selects RX2 yX2_keptBy yX2_keptBy, Cond.code yX2_keptBy cX2_keptBy 2 (some .int), Cond.fieldLink RX2 9 "GloveReply$Moment" "kept" "[I", Cond.methodLink RX6 151 yX1_reply, Cond.instanceMethod yX1_reply, Cond.selects RX1 yX1_reply yX1_reply, Cond.code yX1_reply cX1_reply 5 (some .int), Cond.static yX6_lastOf, Cond.code yX6_lastOf cX6_lastOf 1 (some .int), Cond.methodLink RX1 75 yX1_kindOf, Cond.instanceMethod yX1_kindOf, Cond.selects RX1 yX1_kindOf yX1_kindOf, Cond.code yX1_kindOf cX1_kindOf 2 (some .int), Cond.fieldLink RX1 24 "GloveReply$Desk" "kind" "[I", Cond.static yX6_firstOf, Cond.code yX6_firstOf cX6_firstOf 1 (some .int), Cond.methodLink RX1 69 yX1_ownOf, Cond.instanceMethod yX1_ownOf, Cond.selects RX1 yX1_ownOf yX1_ownOf, Cond.code yX1_ownOf cX1_ownOf 2 (some .int)]
def wsX6_givesAway_r3 : List Cond := [Cond.fieldLink RX1 9 "GloveReply$Desk" "own" "[I", Cond.methodLink RX6 110 yX1_ownOf, Cond.methodLink RX6 196 yX1_isSomeonesOwn, Cond.instanceMethod yX1_isSomeonesOwn, Cond.selects RX1 yX1_isSomeonesOwn yX1_isSomeonesOwn, Cond.code yX1_isSomeonesOwn cX1_isSomeonesOwn 3 (some .boolean)]
def wsX6_givesAway : List Cond := .code yX6_givesAway cX6_givesAway 5 (some .int) :: ((wsX6_givesAway_r1 ++ (wsX6_givesAway_r2 ++ wsX6_givesAway_r3)) ++ wsX60 ++ wsX10 ++ wsX20)
def wsX6_lastAfterWashes : List Cond := .code yX6_lastAfterWashes cX6_lastAfterWashes 5 (some .int) :: ([.fieldLink RX6 26 "GloveReply" "now" "LGloveReply$Moment;", .methodLink RX6 132 yX2_keptBy, .instanceMethod yX2_keptBy, .selects RX2 yX2_keptBy yX2_keptBy, .initialized RX2, .code yX2_keptBy cX2_keptBy 2 (some .int), .fieldLink RX2 9 "GloveReply$Moment" "kept" "[I", .static yX6_at, .initialized RX6, .code yX6_at cX6_at 2 (some .int), .methodLink RX6 158 yX6_withoutLast, .static yX6_withoutLast, .code yX6_withoutLast cX6_withoutLast 1 (some .int), .methodLink RX6 164 yX6_lastOf, .static yX6_lastOf, .code yX6_lastOf cX6_lastOf 1 (some .int)] ++ wsX60 ++ wsX20)
def wsX6_leftBy_r1 : List Cond := [Cond.fieldLink RX6 19 "GloveReply" "theDesk" "LGloveReply$Desk;", Cond.methodLink RX6 123 yX1_hasGlove, Cond.instanceMethod yX1_hasGlove, Cond.selects RX1 yX1_hasGlove yX1_hasGlove, Cond.initialized RX1, Cond.code yX1_hasGlove cX1_hasGlove 2 (some .boolean), Cond.fieldLink RX1 34 "GloveReply$Desk" "gloveCount" "I", Cond.methodLink RX6 62 yX6_within, Cond.static yX6_within, Cond.initialized RX6, Cond.code yX6_within cX6_within 3 (some .boolean), Cond.methodLink RX6 199 yX6_lastAfterWashes, Cond.instanceMethod yX6_lastAfterWashes, Cond.selects RX6 yX6_lastAfterWashes yX6_lastAfterWashes, Cond.code yX6_lastAfterWashes cX6_lastAfterWashes 5 (some .int), Cond.fieldLink RX6 26 "GloveReply" "now" "LGloveReply$Moment;", Cond.methodLink RX6 132 yX2_keptBy, Cond.instanceMethod yX2_keptBy, Cond.selects RX2 yX2_keptBy yX2_keptBy, Cond.initialized RX2, Cond.code yX2_keptBy cX2_keptBy 2 (some .int), Cond.fieldLink RX2 9 "GloveReply$Moment" "kept" "[I", Cond.static yX6_at, Cond.code yX6_at cX6_at 2 (some .int)]
def wsX6_leftBy_r2 : List Cond := [Cond.methodLink RX6 158 yX6_withoutLast, Cond.static yX6_withoutLast, Cond.code yX6_withoutLast cX6_withoutLast 1 (some .int), Cond.methodLink RX6 164 yX6_lastOf, Cond.static yX6_lastOf, Cond.code yX6_lastOf cX6_lastOf 1 (some .int)]
def wsX6_leftBy : List Cond := .code yX6_leftBy cX6_leftBy 3 (some .int) :: ((wsX6_leftBy_r1 ++ wsX6_leftBy_r2) ++ wsX60 ++ wsX10 ++ wsX20)
def wsX6_washes_r1 : List Cond := [Cond.fieldLink RX6 19 "GloveReply" "theDesk" "LGloveReply$Desk;", Cond.methodLink RX6 123 yX1_hasGlove, Cond.instanceMethod yX1_hasGlove, Cond.selects RX1 yX1_hasGlove yX1_hasGlove, Cond.initialized RX1, Cond.code yX1_hasGlove cX1_hasGlove 2 (some .boolean), Cond.fieldLink RX1 34 "GloveReply$Desk" "gloveCount" "I", Cond.methodLink RX6 62 yX6_within, Cond.static yX6_within, Cond.initialized RX6, Cond.code yX6_within cX6_within 3 (some .boolean), Cond.methodLink RX6 199 yX6_lastAfterWashes, Cond.instanceMethod yX6_lastAfterWashes, Cond.selects RX6 yX6_lastAfterWashes yX6_lastAfterWashes, Cond.code yX6_lastAfterWashes cX6_lastAfterWashes 5 (some .int), Cond.fieldLink RX6 26 "GloveReply" "now" "LGloveReply$Moment;", Cond.methodLink RX6 132 yX2_keptBy, Cond.instanceMethod yX2_keptBy, Cond.selects RX2 yX2_keptBy yX2_keptBy, Cond.initialized RX2, Cond.code yX2_keptBy cX2_keptBy 2 (some .int), Cond.fieldLink RX2 9 "GloveReply$Moment" "kept" "[I", Cond.static yX6_at, Cond.code yX6_at cX6_at 2 (some .int)]
def wsX6_washes_r2 : List Cond := [Cond.methodLink RX6 158 yX6_withoutLast, Cond.static yX6_withoutLast, Cond.code yX6_withoutLast cX6_withoutLast 1 (some .int), Cond.methodLink RX6 164 yX6_lastOf, Cond.static yX6_lastOf, Cond.code yX6_lastOf cX6_lastOf 1 (some .int)]
def wsX6_washes : List Cond := .code yX6_washes cX6_washes 4 (some .int) :: ((wsX6_washes_r1 ++ wsX6_washes_r2) ++ wsX60 ++ wsX10 ++ wsX20)
def wsX6_secretOf : List Cond := .code yX6_secretOf cX6_secretOf 3 (some .int) :: ([.fieldLink RX6 26 "GloveReply" "now" "LGloveReply$Moment;", .methodLink RX6 132 yX2_keptBy, .instanceMethod yX2_keptBy, .selects RX2 yX2_keptBy yX2_keptBy, .initialized RX2, .code yX2_keptBy cX2_keptBy 2 (some .int), .fieldLink RX2 9 "GloveReply$Moment" "kept" "[I", .static yX6_at, .initialized RX6, .code yX6_at cX6_at 2 (some .int), .methodLink RX6 164 yX6_lastOf, .static yX6_lastOf, .code yX6_lastOf cX6_lastOf 1 (some .int)] ++ wsX60 ++ wsX20)
def wsX6_both : List Cond := .code yX6_both cX6_both 3 (some .int) :: ([.fieldLink RX6 19 "GloveReply" "theDesk" "LGloveReply$Desk;", .methodLink RX6 123 yX1_hasGlove, .instanceMethod yX1_hasGlove, .selects RX1 yX1_hasGlove yX1_hasGlove, .initialized RX1, .code yX1_hasGlove cX1_hasGlove 2 (some .boolean), .fieldLink RX1 34 "GloveReply$Desk" "gloveCount" "I", .methodLink RX6 203 yX6_secretOf, .instanceMethod yX6_secretOf, .selects RX6 yX6_secretOf yX6_secretOf, .initialized RX6, .code yX6_secretOf cX6_secretOf 3 (some .int), .fieldLink RX6 26 "GloveReply" "now" "LGloveReply$Moment;", .methodLink RX6 132 yX2_keptBy, .instanceMethod yX2_keptBy, .selects RX2 yX2_keptBy yX2_keptBy, .initialized RX2, .code yX2_keptBy cX2_keptBy 2 (some .int), .fieldLink RX2 9 "GloveReply$Moment" "kept" "[I", .static yX6_at, .code yX6_at cX6_at 2 (some .int), .methodLink RX6 164 yX6_lastOf, .static yX6_lastOf, .code yX6_lastOf cX6_lastOf 1 (some .int)] ++ wsX60 ++ wsX10 ++ wsX20)
def wsX6_either : List Cond := .code yX6_either cX6_either 5 (some .int) :: ([.fieldLink RX6 19 "GloveReply" "theDesk" "LGloveReply$Desk;", .fieldLink RX6 26 "GloveReply" "now" "LGloveReply$Moment;", .methodLink RX6 123 yX1_hasGlove, .instanceMethod yX1_hasGlove, .selects RX1 yX1_hasGlove yX1_hasGlove, .initialized RX1, .code yX1_hasGlove cX1_hasGlove 2 (some .boolean), .fieldLink RX1 34 "GloveReply$Desk" "gloveCount" "I", .methodLink RX6 203 yX6_secretOf, .instanceMethod yX6_secretOf, .selects RX6 yX6_secretOf yX6_secretOf, .initialized RX6, .code yX6_secretOf cX6_secretOf 3 (some .int), .methodLink RX6 132 yX2_keptBy, .instanceMethod yX2_keptBy, .selects RX2 yX2_keptBy yX2_keptBy, .initialized RX2, .code yX2_keptBy cX2_keptBy 2 (some .int), .fieldLink RX2 9 "GloveReply$Moment" "kept" "[I", .static yX6_at, .code yX6_at cX6_at 2 (some .int), .methodLink RX6 164 yX6_lastOf, .static yX6_lastOf, .code yX6_lastOf cX6_lastOf 1 (some .int)] ++ wsX60 ++ wsX10 ++ wsX20)
def wsX6_see_r1 : List Cond := [Cond.fieldLink RX6 19 "GloveReply" "theDesk" "LGloveReply$Desk;", Cond.fieldLink RX6 43 "GloveReply" "sightings" "LGloveReply$Sightings;", Cond.methodLink RX6 123 yX1_hasGlove, Cond.instanceMethod yX1_hasGlove, Cond.selects RX1 yX1_hasGlove yX1_hasGlove, Cond.initialized RX1, Cond.code yX1_hasGlove cX1_hasGlove 2 (some .boolean), Cond.fieldLink RX1 34 "GloveReply$Desk" "gloveCount" "I", Cond.methodLink RX6 106 yX1_hasPerson, Cond.instanceMethod yX1_hasPerson, Cond.selects RX1 yX1_hasPerson yX1_hasPerson, Cond.code yX1_hasPerson cX1_hasPerson 2 (some .boolean), Cond.fieldLink RX1 30 "GloveReply$Desk" "personCount" "I", Cond.methodLink RX6 62 yX6_within, Cond.static yX6_within, Cond.initialized RX6, Cond.code yX6_within cX6_within 3 (some .boolean), Cond.methodLink RX6 105 yX3_size, Cond.instanceMethod yX3_size, Cond.selects RX3 yX3_size yX3_size, Cond.initialized RX3, Cond.code yX3_size cX3_size 1 (some .int), Cond.fieldLink RX3 21 "GloveReply$Sightings" "count" "I", Cond.methodLink RX6 206 yX3_add]
def wsX6_see_r2 : List Cond := [Cond.instanceMethod yX3_add, Cond.selects RX3 yX3_add yX3_add, Cond.code yX3_add cX3_add 4 none, Cond.fieldLink RX3 9 "GloveReply$Sightings" "gloves" "[I", Cond.fieldLink RX3 15 "GloveReply$Sightings" "people" "[I", Cond.fieldLink RX3 18 "GloveReply$Sightings" "doings" "[I", Cond.static yX6_put, Cond.code yX6_put cX6_put 3 none]
def wsX6_see : List Cond := .code yX6_see cX6_see 4 (some .int) :: ((wsX6_see_r1 ++ wsX6_see_r2) ++ wsX60 ++ wsX10 ++ wsX30)
def wsX6_unsee : List Cond := .code yX6_unsee cX6_unsee 2 (some .int) :: ([.fieldLink RX6 43 "GloveReply" "sightings" "LGloveReply$Sightings;", .methodLink RX6 105 yX3_size, .instanceMethod yX3_size, .selects RX3 yX3_size yX3_size, .initialized RX3, .code yX3_size cX3_size 1 (some .int), .fieldLink RX3 21 "GloveReply$Sightings" "count" "I", .methodLink RX6 209 yX3_clear, .instanceMethod yX3_clear, .selects RX3 yX3_clear yX3_clear, .code yX3_clear cX3_clear 1 none] ++ wsX60 ++ wsX30)
def wsX6_tallyWearers_r1 : List Cond := [Cond.methodLink RX6 261 yX3_nextOf, Cond.instanceMethod yX3_nextOf, Cond.selects RX3 yX3_nextOf yX3_nextOf, Cond.initialized RX3, Cond.code yX3_nextOf cX3_nextOf 5 (some .int), Cond.fieldLink RX3 21 "GloveReply$Sightings" "count" "I", Cond.fieldLink RX3 9 "GloveReply$Sightings" "gloves" "[I", Cond.static yX6_at, Cond.initialized RX6, Cond.code yX6_at cX6_at 2 (some .int), Cond.methodLink RX3 33 yX3_personAt, Cond.instanceMethod yX3_personAt, Cond.selects RX3 yX3_personAt yX3_personAt, Cond.code yX3_personAt cX3_personAt 2 (some .int), Cond.fieldLink RX3 15 "GloveReply$Sightings" "people" "[I", Cond.methodLink RX3 37 yX1_hasPerson, Cond.instanceMethod yX1_hasPerson, Cond.selects RX1 yX1_hasPerson yX1_hasPerson, Cond.initialized RX1, Cond.code yX1_hasPerson cX1_hasPerson 2 (some .boolean), Cond.fieldLink RX1 30 "GloveReply$Desk" "personCount" "I", Cond.methodLink RX6 105 yX3_size, Cond.instanceMethod yX3_size, Cond.selects RX3 yX3_size yX3_size]
def wsX6_tallyWearers_r2 : List Cond := [Cond.code yX3_size cX3_size 1 (some .int), Cond.methodLink RX6 221 yX4_add, Cond.instanceMethod yX4_add, Cond.selects RX4 yX4_add yX4_add, Cond.initialized RX4, Cond.code yX4_add cX4_add 2 none, Cond.fieldLink RX4 9 "GloveReply$Tally" "count" "I", Cond.fieldLink RX4 15 "GloveReply$Tally" "first" "I", Cond.methodLink RX6 265 yX3_personAt, Cond.methodLink RX6 92 yX1_people, Cond.instanceMethod yX1_people, Cond.selects RX1 yX1_people yX1_people, Cond.code yX1_people cX1_people 1 (some .int), Cond.methodLink RX6 252 yX1_afterHand, Cond.instanceMethod yX1_afterHand, Cond.selects RX1 yX1_afterHand yX1_afterHand, Cond.code yX1_afterHand cX1_afterHand 4 (some .int), Cond.methodLink RX1 69 yX1_ownOf, Cond.instanceMethod yX1_ownOf, Cond.selects RX1 yX1_ownOf yX1_ownOf, Cond.code yX1_ownOf cX1_ownOf 2 (some .int), Cond.fieldLink RX1 9 "GloveReply$Desk" "own" "[I", Cond.methodLink RX1 81 yX1_roomOf, Cond.instanceMethod yX1_roomOf]
def wsX6_tallyWearers_r3 : List Cond := [Cond.selects RX1 yX1_roomOf yX1_roomOf, Cond.code yX1_roomOf cX1_roomOf 2 (some .int), Cond.fieldLink RX1 21 "GloveReply$Desk" "room" "[I", Cond.static yX6_withBehind, Cond.code yX6_withBehind cX6_withBehind 3 (some .int), Cond.methodLink RX6 151 yX1_reply, Cond.instanceMethod yX1_reply, Cond.selects RX1 yX1_reply yX1_reply, Cond.code yX1_reply cX1_reply 5 (some .int), Cond.static yX6_lastOf, Cond.code yX6_lastOf cX6_lastOf 1 (some .int), Cond.methodLink RX1 75 yX1_kindOf, Cond.instanceMethod yX1_kindOf, Cond.selects RX1 yX1_kindOf yX1_kindOf, Cond.code yX1_kindOf cX1_kindOf 2 (some .int), Cond.fieldLink RX1 24 "GloveReply$Desk" "kind" "[I", Cond.static yX6_firstOf, Cond.code yX6_firstOf cX6_firstOf 1 (some .int), Cond.methodLink RX6 268 yX3_doingAt, Cond.instanceMethod yX3_doingAt, Cond.selects RX3 yX3_doingAt yX3_doingAt, Cond.code yX3_doingAt cX3_doingAt 2 (some .int), Cond.fieldLink RX3 18 "GloveReply$Sightings" "doings" "[I", Cond.methodLink RX6 210 yX6_tallyWearers]
def wsX6_tallyWearers_r4 : List Cond := [Cond.static yX6_tallyWearers]
def wsX6_tallyWearers : List Cond := .code yX6_tallyWearers cX6_tallyWearers 12 none :: ((wsX6_tallyWearers_r1 ++ (wsX6_tallyWearers_r2 ++ (wsX6_tallyWearers_r3 ++ wsX6_tallyWearers_r4))) ++ wsX30 ++ wsX10 ++ wsX40)
def wsX6_wore_r1 : List Cond := [Cond.fieldLink RX6 19 "GloveReply" "theDesk" "LGloveReply$Desk;", Cond.fieldLink RX6 26 "GloveReply" "now" "LGloveReply$Moment;", Cond.fieldLink RX6 50 "GloveReply" "tally" "LGloveReply$Tally;", Cond.fieldLink RX6 43 "GloveReply" "sightings" "LGloveReply$Sightings;", Cond.methodLink RX6 123 yX1_hasGlove, Cond.instanceMethod yX1_hasGlove, Cond.selects RX1 yX1_hasGlove yX1_hasGlove, Cond.initialized RX1, Cond.code yX1_hasGlove cX1_hasGlove 2 (some .boolean), Cond.fieldLink RX1 34 "GloveReply$Desk" "gloveCount" "I", Cond.methodLink RX6 180 yX6_isChoice, Cond.static yX6_isChoice, Cond.initialized RX6, Cond.code yX6_isChoice cX6_isChoice 1 (some .boolean), Cond.methodLink RX6 62 yX6_within, Cond.static yX6_within, Cond.code yX6_within cX6_within 3 (some .boolean), Cond.methodLink RX6 141 yX2_isWorn, Cond.instanceMethod yX2_isWorn, Cond.selects RX2 yX2_isWorn yX2_isWorn, Cond.initialized RX2, Cond.code yX2_isWorn cX2_isWorn 2 (some .boolean), Cond.methodLink RX2 44 yX2_wearerOf, Cond.instanceMethod yX2_wearerOf]
def wsX6_wore_r2 : List Cond := [Cond.selects RX2 yX2_wearerOf yX2_wearerOf, Cond.code yX2_wearerOf cX2_wearerOf 2 (some .int), Cond.fieldLink RX2 15 "GloveReply$Moment" "wearer" "[I", Cond.static yX6_at, Cond.code yX6_at cX6_at 2 (some .int), Cond.methodLink RX6 187 yX4_start, Cond.instanceMethod yX4_start, Cond.selects RX4 yX4_start yX4_start, Cond.initialized RX4, Cond.code yX4_start cX4_start 1 none, Cond.fieldLink RX4 9 "GloveReply$Tally" "count" "I", Cond.fieldLink RX4 15 "GloveReply$Tally" "first" "I", Cond.methodLink RX6 132 yX2_keptBy, Cond.instanceMethod yX2_keptBy, Cond.selects RX2 yX2_keptBy yX2_keptBy, Cond.code yX2_keptBy cX2_keptBy 2 (some .int), Cond.fieldLink RX2 9 "GloveReply$Moment" "kept" "[I", Cond.methodLink RX6 210 yX6_tallyWearers, Cond.static yX6_tallyWearers, Cond.code yX6_tallyWearers cX6_tallyWearers 12 none, Cond.methodLink RX6 261 yX3_nextOf, Cond.instanceMethod yX3_nextOf, Cond.selects RX3 yX3_nextOf yX3_nextOf, Cond.initialized RX3]
def wsX6_wore_r3 : List Cond := [Cond.code yX3_nextOf cX3_nextOf 5 (some .int), Cond.fieldLink RX3 21 "GloveReply$Sightings" "count" "I", Cond.fieldLink RX3 9 "GloveReply$Sightings" "gloves" "[I", Cond.methodLink RX3 33 yX3_personAt, Cond.instanceMethod yX3_personAt, Cond.selects RX3 yX3_personAt yX3_personAt, Cond.code yX3_personAt cX3_personAt 2 (some .int), Cond.fieldLink RX3 15 "GloveReply$Sightings" "people" "[I", Cond.methodLink RX3 37 yX1_hasPerson, Cond.instanceMethod yX1_hasPerson, Cond.selects RX1 yX1_hasPerson yX1_hasPerson, Cond.code yX1_hasPerson cX1_hasPerson 2 (some .boolean), Cond.fieldLink RX1 30 "GloveReply$Desk" "personCount" "I", Cond.methodLink RX6 105 yX3_size, Cond.instanceMethod yX3_size, Cond.selects RX3 yX3_size yX3_size, Cond.code yX3_size cX3_size 1 (some .int), Cond.methodLink RX6 221 yX4_add, Cond.instanceMethod yX4_add, Cond.selects RX4 yX4_add yX4_add, Cond.code yX4_add cX4_add 2 none, Cond.methodLink RX6 265 yX3_personAt, Cond.methodLink RX6 92 yX1_people, Cond.instanceMethod yX1_people]
def wsX6_wore_r4 : List Cond := [Cond.selects RX1 yX1_people yX1_people, Cond.code yX1_people cX1_people 1 (some .int), Cond.methodLink RX6 252 yX1_afterHand, Cond.instanceMethod yX1_afterHand, Cond.selects RX1 yX1_afterHand yX1_afterHand, Cond.code yX1_afterHand cX1_afterHand 4 (some .int), Cond.methodLink RX1 69 yX1_ownOf, Cond.instanceMethod yX1_ownOf, Cond.selects RX1 yX1_ownOf yX1_ownOf, Cond.code yX1_ownOf cX1_ownOf 2 (some .int), Cond.fieldLink RX1 9 "GloveReply$Desk" "own" "[I", Cond.methodLink RX1 81 yX1_roomOf, Cond.instanceMethod yX1_roomOf, Cond.selects RX1 yX1_roomOf yX1_roomOf, Cond.code yX1_roomOf cX1_roomOf 2 (some .int), Cond.fieldLink RX1 21 "GloveReply$Desk" "room" "[I", Cond.static yX6_withBehind, Cond.code yX6_withBehind cX6_withBehind 3 (some .int), Cond.methodLink RX6 151 yX1_reply, Cond.instanceMethod yX1_reply, Cond.selects RX1 yX1_reply yX1_reply, Cond.code yX1_reply cX1_reply 5 (some .int), Cond.static yX6_lastOf, Cond.code yX6_lastOf cX6_lastOf 1 (some .int)]
def wsX6_wore_r5 : List Cond := [Cond.methodLink RX1 75 yX1_kindOf, Cond.instanceMethod yX1_kindOf, Cond.selects RX1 yX1_kindOf yX1_kindOf, Cond.code yX1_kindOf cX1_kindOf 2 (some .int), Cond.fieldLink RX1 24 "GloveReply$Desk" "kind" "[I", Cond.static yX6_firstOf, Cond.code yX6_firstOf cX6_firstOf 1 (some .int), Cond.methodLink RX6 268 yX3_doingAt, Cond.instanceMethod yX3_doingAt, Cond.selects RX3 yX3_doingAt yX3_doingAt, Cond.code yX3_doingAt cX3_doingAt 2 (some .int), Cond.fieldLink RX3 18 "GloveReply$Sightings" "doings" "[I", Cond.methodLink RX6 193 yX4_told, Cond.instanceMethod yX4_told, Cond.selects RX4 yX4_told yX4_told, Cond.code yX4_told cX4_told 2 (some .int)]
def wsX6_wore : List Cond := .code yX6_wore cX6_wore 3 (some .int) :: ((wsX6_wore_r1 ++ (wsX6_wore_r2 ++ (wsX6_wore_r3 ++ (wsX6_wore_r4 ++ wsX6_wore_r5)))) ++ wsX60 ++ wsX10 ++ wsX20 ++ wsX40 ++ wsX30)
def wsX6_worthOn_r1 : List Cond := [Cond.fieldLink RX6 19 "GloveReply" "theDesk" "LGloveReply$Desk;", Cond.fieldLink RX6 26 "GloveReply" "now" "LGloveReply$Moment;", Cond.methodLink RX6 132 yX2_keptBy, Cond.instanceMethod yX2_keptBy, Cond.selects RX2 yX2_keptBy yX2_keptBy, Cond.initialized RX2, Cond.code yX2_keptBy cX2_keptBy 2 (some .int), Cond.fieldLink RX2 9 "GloveReply$Moment" "kept" "[I", Cond.static yX6_at, Cond.initialized RX6, Cond.code yX6_at cX6_at 2 (some .int), Cond.methodLink RX6 151 yX1_reply, Cond.instanceMethod yX1_reply, Cond.selects RX1 yX1_reply yX1_reply, Cond.initialized RX1, Cond.code yX1_reply cX1_reply 5 (some .int), Cond.static yX6_lastOf, Cond.code yX6_lastOf cX6_lastOf 1 (some .int), Cond.methodLink RX1 75 yX1_kindOf, Cond.instanceMethod yX1_kindOf, Cond.selects RX1 yX1_kindOf yX1_kindOf, Cond.code yX1_kindOf cX1_kindOf 2 (some .int), Cond.fieldLink RX1 24 "GloveReply$Desk" "kind" "[I", Cond.static yX6_firstOf]
def wsX6_worthOn_r2 : List Cond := [Cond.code yX6_firstOf cX6_firstOf 1 (some .int), Cond.methodLink RX1 69 yX1_ownOf, Cond.instanceMethod yX1_ownOf, Cond.selects RX1 yX1_ownOf yX1_ownOf, Cond.code yX1_ownOf cX1_ownOf 2 (some .int), Cond.fieldLink RX1 9 "GloveReply$Desk" "own" "[I", Cond.methodLink RX6 114 yX1_dearTo, Cond.instanceMethod yX1_dearTo, Cond.selects RX1 yX1_dearTo yX1_dearTo, Cond.code yX1_dearTo cX1_dearTo 2 (some .int), Cond.fieldLink RX1 15 "GloveReply$Desk" "dear" "[I", Cond.methodLink RX6 117 yX1_worthTo, Cond.instanceMethod yX1_worthTo, Cond.selects RX1 yX1_worthTo yX1_worthTo, Cond.code yX1_worthTo cX1_worthTo 2 (some .int), Cond.fieldLink RX1 18 "GloveReply$Desk" "worth" "[I"]
def wsX6_worthOn : List Cond := .code yX6_worthOn cX6_worthOn 4 (some .int) :: ((wsX6_worthOn_r1 ++ wsX6_worthOn_r2) ++ wsX60 ++ wsX20 ++ wsX10)
def wsX6_gainOfFirst : List Cond := .code yX6_gainOfFirst cX6_gainOfFirst 3 (some .int) :: ([])
def wsX6_gainOfOther : List Cond := .code yX6_gainOfOther cX6_gainOfOther 3 (some .int) :: ([])
def wsX6_isAtRest : List Cond := .code yX6_isAtRest cX6_isAtRest 7 (some .boolean) :: ([.methodLink RX6 271 yX6_gainOfFirst, .static yX6_gainOfFirst, .initialized RX6, .code yX6_gainOfFirst cX6_gainOfFirst 3 (some .int), .methodLink RX6 274 yX6_gainOfOther, .static yX6_gainOfOther, .code yX6_gainOfOther cX6_gainOfOther 3 (some .int)])
def wsX6_bids_r1 : List Cond := [Cond.fieldLink RX6 19 "GloveReply" "theDesk" "LGloveReply$Desk;", Cond.fieldLink RX6 26 "GloveReply" "now" "LGloveReply$Moment;", Cond.fieldLink RX6 50 "GloveReply" "tally" "LGloveReply$Tally;", Cond.methodLink RX6 123 yX1_hasGlove, Cond.instanceMethod yX1_hasGlove, Cond.selects RX1 yX1_hasGlove yX1_hasGlove, Cond.initialized RX1, Cond.code yX1_hasGlove cX1_hasGlove 2 (some .boolean), Cond.fieldLink RX1 34 "GloveReply$Desk" "gloveCount" "I", Cond.methodLink RX6 106 yX1_hasPerson, Cond.instanceMethod yX1_hasPerson, Cond.selects RX1 yX1_hasPerson yX1_hasPerson, Cond.code yX1_hasPerson cX1_hasPerson 2 (some .boolean), Cond.fieldLink RX1 30 "GloveReply$Desk" "personCount" "I", Cond.methodLink RX6 180 yX6_isChoice, Cond.static yX6_isChoice, Cond.initialized RX6, Cond.code yX6_isChoice cX6_isChoice 1 (some .boolean), Cond.methodLink RX6 62 yX6_within, Cond.static yX6_within, Cond.code yX6_within cX6_within 3 (some .boolean), Cond.methodLink RX6 141 yX2_isWorn, Cond.instanceMethod yX2_isWorn, Cond.selects RX2 yX2_isWorn yX2_isWorn]
def wsX6_bids_r2 : List Cond := [Cond.initialized RX2, Cond.code yX2_isWorn cX2_isWorn 2 (some .boolean), Cond.methodLink RX2 44 yX2_wearerOf, Cond.instanceMethod yX2_wearerOf, Cond.selects RX2 yX2_wearerOf yX2_wearerOf, Cond.code yX2_wearerOf cX2_wearerOf 2 (some .int), Cond.fieldLink RX2 15 "GloveReply$Moment" "wearer" "[I", Cond.static yX6_at, Cond.code yX6_at cX6_at 2 (some .int), Cond.methodLink RX6 214 yX6_worthOn, Cond.instanceMethod yX6_worthOn, Cond.selects RX6 yX6_worthOn yX6_worthOn, Cond.code yX6_worthOn cX6_worthOn 4 (some .int), Cond.methodLink RX6 132 yX2_keptBy, Cond.instanceMethod yX2_keptBy, Cond.selects RX2 yX2_keptBy yX2_keptBy, Cond.code yX2_keptBy cX2_keptBy 2 (some .int), Cond.fieldLink RX2 9 "GloveReply$Moment" "kept" "[I", Cond.methodLink RX6 151 yX1_reply, Cond.instanceMethod yX1_reply, Cond.selects RX1 yX1_reply yX1_reply, Cond.code yX1_reply cX1_reply 5 (some .int), Cond.static yX6_lastOf, Cond.code yX6_lastOf cX6_lastOf 1 (some .int)]
def wsX6_bids_r3 : List Cond := [Cond.methodLink RX1 75 yX1_kindOf, Cond.instanceMethod yX1_kindOf, Cond.selects RX1 yX1_kindOf yX1_kindOf, Cond.code yX1_kindOf cX1_kindOf 2 (some .int), Cond.fieldLink RX1 24 "GloveReply$Desk" "kind" "[I", Cond.static yX6_firstOf, Cond.code yX6_firstOf cX6_firstOf 1 (some .int), Cond.methodLink RX1 69 yX1_ownOf, Cond.instanceMethod yX1_ownOf, Cond.selects RX1 yX1_ownOf yX1_ownOf, Cond.code yX1_ownOf cX1_ownOf 2 (some .int), Cond.fieldLink RX1 9 "GloveReply$Desk" "own" "[I", Cond.methodLink RX6 114 yX1_dearTo, Cond.instanceMethod yX1_dearTo, Cond.selects RX1 yX1_dearTo yX1_dearTo, Cond.code yX1_dearTo cX1_dearTo 2 (some .int), Cond.fieldLink RX1 15 "GloveReply$Desk" "dear" "[I", Cond.methodLink RX6 117 yX1_worthTo, Cond.instanceMethod yX1_worthTo, Cond.selects RX1 yX1_worthTo yX1_worthTo, Cond.code yX1_worthTo cX1_worthTo 2 (some .int), Cond.fieldLink RX1 18 "GloveReply$Desk" "worth" "[I", Cond.methodLink RX6 187 yX4_start, Cond.instanceMethod yX4_start]
def wsX6_bids_r4 : List Cond := [Cond.selects RX4 yX4_start yX4_start, Cond.initialized RX4, Cond.code yX4_start cX4_start 1 none, Cond.fieldLink RX4 9 "GloveReply$Tally" "count" "I", Cond.fieldLink RX4 15 "GloveReply$Tally" "first" "I", Cond.methodLink RX6 217 yX6_isAtRest, Cond.static yX6_isAtRest, Cond.code yX6_isAtRest cX6_isAtRest 7 (some .boolean), Cond.methodLink RX6 271 yX6_gainOfFirst, Cond.static yX6_gainOfFirst, Cond.code yX6_gainOfFirst cX6_gainOfFirst 3 (some .int), Cond.methodLink RX6 274 yX6_gainOfOther, Cond.static yX6_gainOfOther, Cond.code yX6_gainOfOther cX6_gainOfOther 3 (some .int), Cond.methodLink RX6 221 yX4_add, Cond.instanceMethod yX4_add, Cond.selects RX4 yX4_add yX4_add, Cond.code yX4_add cX4_add 2 none, Cond.methodLink RX6 193 yX4_told, Cond.instanceMethod yX4_told, Cond.selects RX4 yX4_told yX4_told, Cond.code yX4_told cX4_told 2 (some .int)]
def wsX6_bids : List Cond := .code yX6_bids cX6_bids 9 (some .int) :: ((wsX6_bids_r1 ++ (wsX6_bids_r2 ++ (wsX6_bids_r3 ++ wsX6_bids_r4))) ++ wsX60 ++ wsX10 ++ wsX20 ++ wsX40)
def wsX6_waysToDo_r1 : List Cond := [Cond.methodLink RX6 151 yX1_reply, Cond.instanceMethod yX1_reply, Cond.selects RX1 yX1_reply yX1_reply, Cond.initialized RX1, Cond.code yX1_reply cX1_reply 5 (some .int), Cond.static yX6_lastOf, Cond.initialized RX6, Cond.code yX6_lastOf cX6_lastOf 1 (some .int), Cond.methodLink RX1 75 yX1_kindOf, Cond.instanceMethod yX1_kindOf, Cond.selects RX1 yX1_kindOf yX1_kindOf, Cond.code yX1_kindOf cX1_kindOf 2 (some .int), Cond.fieldLink RX1 24 "GloveReply$Desk" "kind" "[I", Cond.static yX6_at, Cond.code yX6_at cX6_at 2 (some .int), Cond.static yX6_firstOf, Cond.code yX6_firstOf cX6_firstOf 1 (some .int), Cond.methodLink RX1 69 yX1_ownOf, Cond.instanceMethod yX1_ownOf, Cond.selects RX1 yX1_ownOf yX1_ownOf, Cond.code yX1_ownOf cX1_ownOf 2 (some .int), Cond.fieldLink RX1 9 "GloveReply$Desk" "own" "[I", Cond.methodLink RX6 92 yX1_people, Cond.instanceMethod yX1_people]
def wsX6_waysToDo_r2 : List Cond := [Cond.selects RX1 yX1_people yX1_people, Cond.code yX1_people cX1_people 1 (some .int), Cond.fieldLink RX1 30 "GloveReply$Desk" "personCount" "I", Cond.methodLink RX6 252 yX1_afterHand, Cond.instanceMethod yX1_afterHand, Cond.selects RX1 yX1_afterHand yX1_afterHand, Cond.code yX1_afterHand cX1_afterHand 4 (some .int), Cond.methodLink RX1 81 yX1_roomOf, Cond.instanceMethod yX1_roomOf, Cond.selects RX1 yX1_roomOf yX1_roomOf, Cond.code yX1_roomOf cX1_roomOf 2 (some .int), Cond.fieldLink RX1 21 "GloveReply$Desk" "room" "[I", Cond.static yX6_withBehind, Cond.code yX6_withBehind cX6_withBehind 3 (some .int), Cond.methodLink RX6 222 yX6_waysToDo, Cond.static yX6_waysToDo]
def wsX6_waysToDo : List Cond := .code yX6_waysToDo cX6_waysToDo 9 (some .int) :: ((wsX6_waysToDo_r1 ++ wsX6_waysToDo_r2) ++ wsX10)
def wsX6_partInLeastTerms : List Cond := .code yX6_partInLeastTerms cX6_partInLeastTerms 5 (some .int) :: ([])
def wsX6_lost_r1 : List Cond := [Cond.fieldLink RX6 19 "GloveReply" "theDesk" "LGloveReply$Desk;", Cond.fieldLink RX6 26 "GloveReply" "now" "LGloveReply$Moment;", Cond.methodLink RX6 123 yX1_hasGlove, Cond.instanceMethod yX1_hasGlove, Cond.selects RX1 yX1_hasGlove yX1_hasGlove, Cond.initialized RX1, Cond.code yX1_hasGlove cX1_hasGlove 2 (some .boolean), Cond.fieldLink RX1 34 "GloveReply$Desk" "gloveCount" "I", Cond.methodLink RX6 106 yX1_hasPerson, Cond.instanceMethod yX1_hasPerson, Cond.selects RX1 yX1_hasPerson yX1_hasPerson, Cond.code yX1_hasPerson cX1_hasPerson 2 (some .boolean), Cond.fieldLink RX1 30 "GloveReply$Desk" "personCount" "I", Cond.methodLink RX6 62 yX6_within, Cond.static yX6_within, Cond.initialized RX6, Cond.code yX6_within cX6_within 3 (some .boolean), Cond.methodLink RX6 141 yX2_isWorn, Cond.instanceMethod yX2_isWorn, Cond.selects RX2 yX2_isWorn yX2_isWorn, Cond.initialized RX2, Cond.code yX2_isWorn cX2_isWorn 2 (some .boolean), Cond.methodLink RX2 44 yX2_wearerOf, Cond.instanceMethod yX2_wearerOf]
def wsX6_lost_r2 : List Cond := [Cond.selects RX2 yX2_wearerOf yX2_wearerOf, Cond.code yX2_wearerOf cX2_wearerOf 2 (some .int), Cond.fieldLink RX2 15 "GloveReply$Moment" "wearer" "[I", Cond.static yX6_at, Cond.code yX6_at cX6_at 2 (some .int), Cond.methodLink RX6 132 yX2_keptBy, Cond.instanceMethod yX2_keptBy, Cond.selects RX2 yX2_keptBy yX2_keptBy, Cond.code yX2_keptBy cX2_keptBy 2 (some .int), Cond.fieldLink RX2 9 "GloveReply$Moment" "kept" "[I", Cond.methodLink RX6 222 yX6_waysToDo, Cond.static yX6_waysToDo, Cond.code yX6_waysToDo cX6_waysToDo 9 (some .int), Cond.methodLink RX6 151 yX1_reply, Cond.instanceMethod yX1_reply, Cond.selects RX1 yX1_reply yX1_reply, Cond.code yX1_reply cX1_reply 5 (some .int), Cond.static yX6_lastOf, Cond.code yX6_lastOf cX6_lastOf 1 (some .int), Cond.methodLink RX1 75 yX1_kindOf, Cond.instanceMethod yX1_kindOf, Cond.selects RX1 yX1_kindOf yX1_kindOf, Cond.code yX1_kindOf cX1_kindOf 2 (some .int), Cond.fieldLink RX1 24 "GloveReply$Desk" "kind" "[I"]
def wsX6_lost_r3 : List Cond := [Cond.static yX6_firstOf, Cond.code yX6_firstOf cX6_firstOf 1 (some .int), Cond.methodLink RX1 69 yX1_ownOf, Cond.instanceMethod yX1_ownOf, Cond.selects RX1 yX1_ownOf yX1_ownOf, Cond.code yX1_ownOf cX1_ownOf 2 (some .int), Cond.fieldLink RX1 9 "GloveReply$Desk" "own" "[I", Cond.methodLink RX6 92 yX1_people, Cond.instanceMethod yX1_people, Cond.selects RX1 yX1_people yX1_people, Cond.code yX1_people cX1_people 1 (some .int), Cond.methodLink RX6 252 yX1_afterHand, Cond.instanceMethod yX1_afterHand, Cond.selects RX1 yX1_afterHand yX1_afterHand, Cond.code yX1_afterHand cX1_afterHand 4 (some .int), Cond.methodLink RX1 81 yX1_roomOf, Cond.instanceMethod yX1_roomOf, Cond.selects RX1 yX1_roomOf yX1_roomOf, Cond.code yX1_roomOf cX1_roomOf 2 (some .int), Cond.fieldLink RX1 21 "GloveReply$Desk" "room" "[I", Cond.static yX6_withBehind, Cond.code yX6_withBehind cX6_withBehind 3 (some .int), Cond.methodLink RX6 225 yX6_partInLeastTerms, Cond.static yX6_partInLeastTerms]
def wsX6_lost_r4 : List Cond := [Cond.code yX6_partInLeastTerms cX6_partInLeastTerms 5 (some .int)]
def wsX6_lost : List Cond := .code yX6_lost cX6_lost 9 (some .int) :: ((wsX6_lost_r1 ++ (wsX6_lost_r2 ++ (wsX6_lost_r3 ++ wsX6_lost_r4))) ++ wsX60 ++ wsX10 ++ wsX20)
def wsX6_seed : List Cond := .code yX6_seed cX6_seed 5 (some .long) :: ([.fieldLink RX6 58 "GloveReply" "theSeed" "J"] ++ wsX60)
def wsX6_pleasesOnTrial_r1 : List Cond := [Cond.fieldLink RX6 19 "GloveReply" "theDesk" "LGloveReply$Desk;", Cond.fieldLink RX6 30 "GloveReply" "trial" "LGloveReply$Moment;", Cond.methodLink RX6 123 yX1_hasGlove, Cond.instanceMethod yX1_hasGlove, Cond.selects RX1 yX1_hasGlove yX1_hasGlove, Cond.initialized RX1, Cond.code yX1_hasGlove cX1_hasGlove 2 (some .boolean), Cond.fieldLink RX1 34 "GloveReply$Desk" "gloveCount" "I", Cond.methodLink RX6 106 yX1_hasPerson, Cond.instanceMethod yX1_hasPerson, Cond.selects RX1 yX1_hasPerson yX1_hasPerson, Cond.code yX1_hasPerson cX1_hasPerson 2 (some .boolean), Cond.fieldLink RX1 30 "GloveReply$Desk" "personCount" "I", Cond.methodLink RX6 141 yX2_isWorn, Cond.instanceMethod yX2_isWorn, Cond.selects RX2 yX2_isWorn yX2_isWorn, Cond.initialized RX2, Cond.code yX2_isWorn cX2_isWorn 2 (some .boolean), Cond.methodLink RX2 44 yX2_wearerOf, Cond.instanceMethod yX2_wearerOf, Cond.selects RX2 yX2_wearerOf yX2_wearerOf, Cond.code yX2_wearerOf cX2_wearerOf 2 (some .int), Cond.fieldLink RX2 15 "GloveReply$Moment" "wearer" "[I", Cond.static yX6_at]
def wsX6_pleasesOnTrial_r2 : List Cond := [Cond.initialized RX6, Cond.code yX6_at cX6_at 2 (some .int), Cond.methodLink RX6 120 yX2_gloveOn, Cond.instanceMethod yX2_gloveOn, Cond.selects RX2 yX2_gloveOn yX2_gloveOn, Cond.code yX2_gloveOn cX2_gloveOn 3 (some .int), Cond.methodLink RX6 132 yX2_keptBy, Cond.instanceMethod yX2_keptBy, Cond.selects RX2 yX2_keptBy yX2_keptBy, Cond.code yX2_keptBy cX2_keptBy 2 (some .int), Cond.fieldLink RX2 9 "GloveReply$Moment" "kept" "[I", Cond.methodLink RX6 252 yX1_afterHand, Cond.instanceMethod yX1_afterHand, Cond.selects RX1 yX1_afterHand yX1_afterHand, Cond.code yX1_afterHand cX1_afterHand 4 (some .int), Cond.methodLink RX1 69 yX1_ownOf, Cond.instanceMethod yX1_ownOf, Cond.selects RX1 yX1_ownOf yX1_ownOf, Cond.code yX1_ownOf cX1_ownOf 2 (some .int), Cond.fieldLink RX1 9 "GloveReply$Desk" "own" "[I", Cond.methodLink RX1 81 yX1_roomOf, Cond.instanceMethod yX1_roomOf, Cond.selects RX1 yX1_roomOf yX1_roomOf, Cond.code yX1_roomOf cX1_roomOf 2 (some .int)]
def wsX6_pleasesOnTrial_r3 : List Cond := [Cond.fieldLink RX1 21 "GloveReply$Desk" "room" "[I", Cond.static yX6_withBehind, Cond.code yX6_withBehind cX6_withBehind 3 (some .int), Cond.methodLink RX6 161 yX2_setKept, Cond.instanceMethod yX2_setKept, Cond.selects RX2 yX2_setKept yX2_setKept, Cond.code yX2_setKept cX2_setKept 3 none, Cond.static yX6_put, Cond.code yX6_put cX6_put 3 none, Cond.methodLink RX6 151 yX1_reply, Cond.instanceMethod yX1_reply, Cond.selects RX1 yX1_reply yX1_reply, Cond.code yX1_reply cX1_reply 5 (some .int), Cond.static yX6_lastOf, Cond.code yX6_lastOf cX6_lastOf 1 (some .int), Cond.methodLink RX1 75 yX1_kindOf, Cond.instanceMethod yX1_kindOf, Cond.selects RX1 yX1_kindOf yX1_kindOf, Cond.code yX1_kindOf cX1_kindOf 2 (some .int), Cond.fieldLink RX1 24 "GloveReply$Desk" "kind" "[I", Cond.static yX6_firstOf, Cond.code yX6_firstOf cX6_firstOf 1 (some .int), Cond.methodLink RX6 114 yX1_dearTo, Cond.instanceMethod yX1_dearTo]
def wsX6_pleasesOnTrial_r4 : List Cond := [Cond.selects RX1 yX1_dearTo yX1_dearTo, Cond.code yX1_dearTo cX1_dearTo 2 (some .int), Cond.fieldLink RX1 15 "GloveReply$Desk" "dear" "[I"]
def wsX6_pleasesOnTrial : List Cond := .code yX6_pleasesOnTrial cX6_pleasesOnTrial 4 (some .boolean) :: ((wsX6_pleasesOnTrial_r1 ++ (wsX6_pleasesOnTrial_r2 ++ (wsX6_pleasesOnTrial_r3 ++ wsX6_pleasesOnTrial_r4))) ++ wsX60 ++ wsX10 ++ wsX20)
def wsX6_weeks_r1 : List Cond := [Cond.fieldLink RX6 30 "GloveReply" "trial" "LGloveReply$Moment;", Cond.fieldLink RX6 26 "GloveReply" "now" "LGloveReply$Moment;", Cond.fieldLink RX6 58 "GloveReply" "theSeed" "J", Cond.constantLong RX6 232 (6364136223846793005), Cond.constantLong RX6 234 (1442695040888963407), Cond.constantLong RX6 236 (20), Cond.methodLink RX6 62 yX6_within, Cond.static yX6_within, Cond.initialized RX6, Cond.code yX6_within cX6_within 3 (some .boolean), Cond.methodLink RX6 229 yX2_copy, Cond.instanceMethod yX2_copy, Cond.selects RX2 yX2_copy yX2_copy, Cond.initialized RX2, Cond.code yX2_copy cX2_copy 2 none, Cond.fieldLink RX2 9 "GloveReply$Moment" "kept" "[I", Cond.fieldLink RX2 15 "GloveReply$Moment" "wearer" "[I", Cond.fieldLink RX2 18 "GloveReply$Moment" "date" "I", Cond.fieldLink RX2 22 "GloveReply$Moment" "taken" "Z", Cond.static yX6_copyRow, Cond.code yX6_copyRow cX6_copyRow 3 none, Cond.methodLink RX6 238 yX6_pleasesOnTrial, Cond.instanceMethod yX6_pleasesOnTrial, Cond.selects RX6 yX6_pleasesOnTrial yX6_pleasesOnTrial]
def wsX6_weeks_r2 : List Cond := [Cond.code yX6_pleasesOnTrial cX6_pleasesOnTrial 4 (some .boolean), Cond.fieldLink RX6 19 "GloveReply" "theDesk" "LGloveReply$Desk;", Cond.methodLink RX6 123 yX1_hasGlove, Cond.instanceMethod yX1_hasGlove, Cond.selects RX1 yX1_hasGlove yX1_hasGlove, Cond.initialized RX1, Cond.code yX1_hasGlove cX1_hasGlove 2 (some .boolean), Cond.fieldLink RX1 34 "GloveReply$Desk" "gloveCount" "I", Cond.methodLink RX6 106 yX1_hasPerson, Cond.instanceMethod yX1_hasPerson, Cond.selects RX1 yX1_hasPerson yX1_hasPerson, Cond.code yX1_hasPerson cX1_hasPerson 2 (some .boolean), Cond.fieldLink RX1 30 "GloveReply$Desk" "personCount" "I", Cond.methodLink RX6 141 yX2_isWorn, Cond.instanceMethod yX2_isWorn, Cond.selects RX2 yX2_isWorn yX2_isWorn, Cond.code yX2_isWorn cX2_isWorn 2 (some .boolean), Cond.methodLink RX2 44 yX2_wearerOf, Cond.instanceMethod yX2_wearerOf, Cond.selects RX2 yX2_wearerOf yX2_wearerOf, Cond.code yX2_wearerOf cX2_wearerOf 2 (some .int), Cond.static yX6_at, Cond.code yX6_at cX6_at 2 (some .int), Cond.methodLink RX6 120 yX2_gloveOn]
def wsX6_weeks_r3 : List Cond := [Cond.instanceMethod yX2_gloveOn, Cond.selects RX2 yX2_gloveOn yX2_gloveOn, Cond.code yX2_gloveOn cX2_gloveOn 3 (some .int), Cond.methodLink RX6 132 yX2_keptBy, Cond.instanceMethod yX2_keptBy, Cond.selects RX2 yX2_keptBy yX2_keptBy, Cond.code yX2_keptBy cX2_keptBy 2 (some .int), Cond.methodLink RX6 252 yX1_afterHand, Cond.instanceMethod yX1_afterHand, Cond.selects RX1 yX1_afterHand yX1_afterHand, Cond.code yX1_afterHand cX1_afterHand 4 (some .int), Cond.methodLink RX1 69 yX1_ownOf, Cond.instanceMethod yX1_ownOf, Cond.selects RX1 yX1_ownOf yX1_ownOf, Cond.code yX1_ownOf cX1_ownOf 2 (some .int), Cond.fieldLink RX1 9 "GloveReply$Desk" "own" "[I", Cond.methodLink RX1 81 yX1_roomOf, Cond.instanceMethod yX1_roomOf, Cond.selects RX1 yX1_roomOf yX1_roomOf, Cond.code yX1_roomOf cX1_roomOf 2 (some .int), Cond.fieldLink RX1 21 "GloveReply$Desk" "room" "[I", Cond.static yX6_withBehind, Cond.code yX6_withBehind cX6_withBehind 3 (some .int), Cond.methodLink RX6 161 yX2_setKept]
def wsX6_weeks_r4 : List Cond := [Cond.instanceMethod yX2_setKept, Cond.selects RX2 yX2_setKept yX2_setKept, Cond.code yX2_setKept cX2_setKept 3 none, Cond.static yX6_put, Cond.code yX6_put cX6_put 3 none, Cond.methodLink RX6 151 yX1_reply, Cond.instanceMethod yX1_reply, Cond.selects RX1 yX1_reply yX1_reply, Cond.code yX1_reply cX1_reply 5 (some .int), Cond.static yX6_lastOf, Cond.code yX6_lastOf cX6_lastOf 1 (some .int), Cond.methodLink RX1 75 yX1_kindOf, Cond.instanceMethod yX1_kindOf, Cond.selects RX1 yX1_kindOf yX1_kindOf, Cond.code yX1_kindOf cX1_kindOf 2 (some .int), Cond.fieldLink RX1 24 "GloveReply$Desk" "kind" "[I", Cond.static yX6_firstOf, Cond.code yX6_firstOf cX6_firstOf 1 (some .int), Cond.methodLink RX6 114 yX1_dearTo, Cond.instanceMethod yX1_dearTo, Cond.selects RX1 yX1_dearTo yX1_dearTo, Cond.code yX1_dearTo cX1_dearTo 2 (some .int), Cond.fieldLink RX1 15 "GloveReply$Desk" "dear" "[I"]
def wsX6_weeks : List Cond := .code yX6_weeks cX6_weeks 5 (some .int) :: ((wsX6_weeks_r1 ++ (wsX6_weeks_r2 ++ (wsX6_weeks_r3 ++ wsX6_weeks_r4))) ++ wsX60 ++ wsX20 ++ wsX10)
def wsX6_slotAt : List Cond := .code yX6_slotAt cX6_slotAt 2 (some (.object "GloveReply$Moment")) :: ([.fieldLink RX6 54 "GloveReply" "slots" "[LGloveReply$Moment;"] ++ wsX60)
def wsX6_keep : List Cond := .code yX6_keep cX6_keep 3 (some .int) :: ([.fieldLink RX6 26 "GloveReply" "now" "LGloveReply$Moment;", .methodLink RX6 241 yX6_slotAt, .instanceMethod yX6_slotAt, .selects RX6 yX6_slotAt yX6_slotAt, .initialized RX6, .code yX6_slotAt cX6_slotAt 2 (some (.object "GloveReply$Moment")), .fieldLink RX6 54 "GloveReply" "slots" "[LGloveReply$Moment;", .methodLink RX6 229 yX2_copy, .instanceMethod yX2_copy, .selects RX2 yX2_copy yX2_copy, .initialized RX2, .code yX2_copy cX2_copy 2 none, .fieldLink RX2 9 "GloveReply$Moment" "kept" "[I", .fieldLink RX2 15 "GloveReply$Moment" "wearer" "[I", .fieldLink RX2 18 "GloveReply$Moment" "date" "I", .fieldLink RX2 22 "GloveReply$Moment" "taken" "Z", .static yX6_copyRow, .code yX6_copyRow cX6_copyRow 3 none, .methodLink RX6 98 yX2_today, .instanceMethod yX2_today, .selects RX2 yX2_today yX2_today, .code yX2_today cX2_today 1 (some .int)] ++ wsX60 ++ wsX20)
def wsX6_again_r1 : List Cond := [Cond.fieldLink RX6 26 "GloveReply" "now" "LGloveReply$Moment;", Cond.fieldLink RX6 36 "GloveReply" "acts" "LGloveReply$Acts;", Cond.methodLink RX6 241 yX6_slotAt, Cond.instanceMethod yX6_slotAt, Cond.selects RX6 yX6_slotAt yX6_slotAt, Cond.initialized RX6, Cond.code yX6_slotAt cX6_slotAt 2 (some (.object "GloveReply$Moment")), Cond.fieldLink RX6 54 "GloveReply" "slots" "[LGloveReply$Moment;", Cond.methodLink RX6 245 yX2_isTaken, Cond.instanceMethod yX2_isTaken, Cond.selects RX2 yX2_isTaken yX2_isTaken, Cond.initialized RX2, Cond.code yX2_isTaken cX2_isTaken 1 (some .boolean), Cond.fieldLink RX2 22 "GloveReply$Moment" "taken" "Z", Cond.methodLink RX6 229 yX2_copy, Cond.instanceMethod yX2_copy, Cond.selects RX2 yX2_copy yX2_copy, Cond.code yX2_copy cX2_copy 2 none, Cond.fieldLink RX2 9 "GloveReply$Moment" "kept" "[I", Cond.fieldLink RX2 15 "GloveReply$Moment" "wearer" "[I", Cond.fieldLink RX2 18 "GloveReply$Moment" "date" "I", Cond.static yX6_copyRow, Cond.code yX6_copyRow cX6_copyRow 3 none, Cond.methodLink RX6 88 yX0_clear]
def wsX6_again_r2 : List Cond := [Cond.instanceMethod yX0_clear, Cond.selects RX0 yX0_clear yX0_clear, Cond.initialized RX0, Cond.code yX0_clear cX0_clear 1 none, Cond.fieldLink RX0 22 "GloveReply$Acts" "count" "I", Cond.methodLink RX6 98 yX2_today, Cond.instanceMethod yX2_today, Cond.selects RX2 yX2_today yX2_today, Cond.code yX2_today cX2_today 1 (some .int)]
def wsX6_again : List Cond := .code yX6_again cX6_again 3 (some .int) :: ((wsX6_again_r1 ++ wsX6_again_r2) ++ wsX60 ++ wsX20 ++ wsX00)
def wsX7_init : List Cond := .code yX7_init cX7_init 1 none :: ([.methodLink RX7 1 objectInit, .instanceMethod objectInit, .code objectInit ⟨#[0xb1]⟩ 1 none, .arrayClass .int, .fieldLink RX7 7 "GloveReplyModel" "text" "[I", .fieldLink RX7 13 "GloveReplyModel" "person" "[I", .fieldLink RX7 16 "GloveReplyModel" "glove" "[I", .fieldLink RX7 19 "GloveReplyModel" "readPerson" "[I", .fieldLink RX7 22 "GloveReplyModel" "readGlove" "[I", .fieldLink RX7 25 "GloveReplyModel" "page" "[I", .fieldLink RX7 28 "GloveReplyModel" "trial" "[I", .fieldLink RX7 31 "GloveReplyModel" "book" "[I", .fieldLink RX7 34 "GloveReplyModel" "kept" "[I", .arrayClass .boolean, .fieldLink RX7 37 "GloveReplyModel" "isKept" "[Z", .fieldLink RX7 41 "GloveReplyModel" "seenGlove" "[I", .fieldLink RX7 44 "GloveReplyModel" "seenPerson" "[I", .fieldLink RX7 47 "GloveReplyModel" "seenDoing" "[I"] ++ wsX70)
def wsX7_in : List Cond := .code yX7_in cX7_in 6 (some .boolean) :: ([])
def wsX7_noPerson : List Cond := .code yX7_noPerson cX7_noPerson 2 (some .boolean) :: ([.fieldLink RX7 54 "GloveReplyModel" "people" "I", .methodLink RX7 57 yX7_in, .static yX7_in, .initialized RX7, .code yX7_in cX7_in 6 (some .boolean)] ++ wsX70)
def wsX7_noGlove : List Cond := .code yX7_noGlove cX7_noGlove 2 (some .boolean) :: ([.fieldLink RX7 61 "GloveReplyModel" "gloves" "I", .methodLink RX7 57 yX7_in, .static yX7_in, .initialized RX7, .code yX7_in cX7_in 6 (some .boolean)] ++ wsX70)
def wsX7_write : List Cond := .code yX7_write cX7_write 2 (some .int) :: ([.fieldLink RX7 50 "GloveReplyModel" "thrown" "I", .constantLong RX7 64 (255), .fieldLink RX7 66 "GloveReplyModel" "textSize" "I", .fieldLink RX7 7 "GloveReplyModel" "text" "[I", .methodLink RX7 57 yX7_in, .static yX7_in, .initialized RX7, .code yX7_in cX7_in 6 (some .boolean)] ++ wsX70)
def wsX7_wipe : List Cond := .code yX7_wipe cX7_wipe 2 (some .int) :: ([.fieldLink RX7 50 "GloveReplyModel" "thrown" "I", .fieldLink RX7 66 "GloveReplyModel" "textSize" "I"] ++ wsX70)
def wsX7_figure : List Cond := .code yX7_figure cX7_figure 3 (some .int) :: ([.fieldLink RX7 69 "GloveReplyModel" "place" "I", .fieldLink RX7 66 "GloveReplyModel" "textSize" "I", .fieldLink RX7 7 "GloveReplyModel" "text" "[I", .methodLink RX7 57 yX7_in, .static yX7_in, .initialized RX7, .code yX7_in cX7_in 6 (some .boolean)] ++ wsX70)
def wsX7_readPerson : List Cond := .code yX7_readPerson cX7_readPerson 3 (some .boolean) :: ([.fieldLink RX7 19 "GloveReplyModel" "readPerson" "[I", .fieldLink RX7 76 "GloveReplyModel" "readPeople" "I", .methodLink RX7 72 yX7_figure, .instanceMethod yX7_figure, .selects RX7 yX7_figure yX7_figure, .initialized RX7, .code yX7_figure cX7_figure 3 (some .int), .fieldLink RX7 69 "GloveReplyModel" "place" "I", .fieldLink RX7 66 "GloveReplyModel" "textSize" "I", .fieldLink RX7 7 "GloveReplyModel" "text" "[I", .methodLink RX7 57 yX7_in, .static yX7_in, .code yX7_in cX7_in 6 (some .boolean)] ++ wsX70)
def wsX7_readGlove : List Cond := .code yX7_readGlove cX7_readGlove 3 (some .boolean) :: ([.fieldLink RX7 22 "GloveReplyModel" "readGlove" "[I", .fieldLink RX7 79 "GloveReplyModel" "readGloves" "I", .methodLink RX7 72 yX7_figure, .instanceMethod yX7_figure, .selects RX7 yX7_figure yX7_figure, .initialized RX7, .code yX7_figure cX7_figure 3 (some .int), .fieldLink RX7 69 "GloveReplyModel" "place" "I", .fieldLink RX7 66 "GloveReplyModel" "textSize" "I", .fieldLink RX7 7 "GloveReplyModel" "text" "[I", .methodLink RX7 57 yX7_in, .static yX7_in, .code yX7_in cX7_in 6 (some .boolean)] ++ wsX70)
def wsX7_readPart : List Cond := .code yX7_readPart cX7_readPart 2 (some .boolean) :: ([.fieldLink RX7 7 "GloveReplyModel" "text" "[I", .fieldLink RX7 69 "GloveReplyModel" "place" "I", .fieldLink RX7 76 "GloveReplyModel" "readPeople" "I", .fieldLink RX7 79 "GloveReplyModel" "readGloves" "I", .methodLink RX7 82 yX7_readPerson, .instanceMethod yX7_readPerson, .selects RX7 yX7_readPerson yX7_readPerson, .initialized RX7, .code yX7_readPerson cX7_readPerson 3 (some .boolean), .fieldLink RX7 19 "GloveReplyModel" "readPerson" "[I", .methodLink RX7 72 yX7_figure, .instanceMethod yX7_figure, .selects RX7 yX7_figure yX7_figure, .code yX7_figure cX7_figure 3 (some .int), .fieldLink RX7 66 "GloveReplyModel" "textSize" "I", .methodLink RX7 57 yX7_in, .static yX7_in, .code yX7_in cX7_in 6 (some .boolean), .methodLink RX7 85 yX7_readGlove, .instanceMethod yX7_readGlove, .selects RX7 yX7_readGlove yX7_readGlove, .code yX7_readGlove cX7_readGlove 3 (some .boolean), .fieldLink RX7 22 "GloveReplyModel" "readGlove" "[I"] ++ wsX70)
def wsX7_readDesk_r1 : List Cond := [Cond.fieldLink RX7 69 "GloveReplyModel" "place" "I", Cond.fieldLink RX7 76 "GloveReplyModel" "readPeople" "I", Cond.fieldLink RX7 79 "GloveReplyModel" "readGloves" "I", Cond.fieldLink RX7 66 "GloveReplyModel" "textSize" "I", Cond.fieldLink RX7 7 "GloveReplyModel" "text" "[I", Cond.methodLink RX7 87 yX7_readPart, Cond.instanceMethod yX7_readPart, Cond.selects RX7 yX7_readPart yX7_readPart, Cond.initialized RX7, Cond.code yX7_readPart cX7_readPart 2 (some .boolean), Cond.methodLink RX7 82 yX7_readPerson, Cond.instanceMethod yX7_readPerson, Cond.selects RX7 yX7_readPerson yX7_readPerson, Cond.code yX7_readPerson cX7_readPerson 3 (some .boolean), Cond.fieldLink RX7 19 "GloveReplyModel" "readPerson" "[I", Cond.methodLink RX7 72 yX7_figure, Cond.instanceMethod yX7_figure, Cond.selects RX7 yX7_figure yX7_figure, Cond.code yX7_figure cX7_figure 3 (some .int), Cond.methodLink RX7 57 yX7_in, Cond.static yX7_in, Cond.code yX7_in cX7_in 6 (some .boolean), Cond.methodLink RX7 85 yX7_readGlove, Cond.instanceMethod yX7_readGlove]
def wsX7_readDesk_r2 : List Cond := [Cond.selects RX7 yX7_readGlove yX7_readGlove, Cond.code yX7_readGlove cX7_readGlove 3 (some .boolean), Cond.fieldLink RX7 22 "GloveReplyModel" "readGlove" "[I"]
def wsX7_readDesk : List Cond := .code yX7_readDesk cX7_readDesk 1 (some .int) :: ((wsX7_readDesk_r1 ++ wsX7_readDesk_r2) ++ wsX70)
def wsX7_fault_r1 : List Cond := [Cond.fieldLink RX7 50 "GloveReplyModel" "thrown" "I", Cond.methodLink RX7 90 yX7_readDesk, Cond.instanceMethod yX7_readDesk, Cond.selects RX7 yX7_readDesk yX7_readDesk, Cond.initialized RX7, Cond.code yX7_readDesk cX7_readDesk 1 (some .int), Cond.fieldLink RX7 69 "GloveReplyModel" "place" "I", Cond.fieldLink RX7 76 "GloveReplyModel" "readPeople" "I", Cond.fieldLink RX7 79 "GloveReplyModel" "readGloves" "I", Cond.fieldLink RX7 66 "GloveReplyModel" "textSize" "I", Cond.fieldLink RX7 7 "GloveReplyModel" "text" "[I", Cond.methodLink RX7 87 yX7_readPart, Cond.instanceMethod yX7_readPart, Cond.selects RX7 yX7_readPart yX7_readPart, Cond.code yX7_readPart cX7_readPart 2 (some .boolean), Cond.methodLink RX7 82 yX7_readPerson, Cond.instanceMethod yX7_readPerson, Cond.selects RX7 yX7_readPerson yX7_readPerson, Cond.code yX7_readPerson cX7_readPerson 3 (some .boolean), Cond.fieldLink RX7 19 "GloveReplyModel" "readPerson" "[I", Cond.methodLink RX7 72 yX7_figure, Cond.instanceMethod yX7_figure, Cond.selects RX7 yX7_figure yX7_figure, Cond.code yX7_figure cX7_figure 3 (some .int)]
def wsX7_fault_r2 : List Cond := [Cond.methodLink RX7 57 yX7_in, Cond.static yX7_in, Cond.code yX7_in cX7_in 6 (some .boolean), Cond.methodLink RX7 85 yX7_readGlove, Cond.instanceMethod yX7_readGlove, Cond.selects RX7 yX7_readGlove yX7_readGlove, Cond.code yX7_readGlove cX7_readGlove 3 (some .boolean), Cond.fieldLink RX7 22 "GloveReplyModel" "readGlove" "[I"]
def wsX7_fault : List Cond := .code yX7_fault cX7_fault 1 (some .int) :: ((wsX7_fault_r1 ++ wsX7_fault_r2) ++ wsX70)
def wsX7_desk_r1 : List Cond := [Cond.fieldLink RX7 50 "GloveReplyModel" "thrown" "I", Cond.fieldLink RX7 76 "GloveReplyModel" "readPeople" "I", Cond.fieldLink RX7 54 "GloveReplyModel" "people" "I", Cond.fieldLink RX7 79 "GloveReplyModel" "readGloves" "I", Cond.fieldLink RX7 61 "GloveReplyModel" "gloves" "I", Cond.fieldLink RX7 13 "GloveReplyModel" "person" "[I", Cond.fieldLink RX7 19 "GloveReplyModel" "readPerson" "[I", Cond.fieldLink RX7 25 "GloveReplyModel" "page" "[I", Cond.fieldLink RX7 16 "GloveReplyModel" "glove" "[I", Cond.fieldLink RX7 22 "GloveReplyModel" "readGlove" "[I", Cond.fieldLink RX7 94 "GloveReplyModel" "acts" "I", Cond.fieldLink RX7 37 "GloveReplyModel" "isKept" "[Z", Cond.methodLink RX7 90 yX7_readDesk, Cond.instanceMethod yX7_readDesk, Cond.selects RX7 yX7_readDesk yX7_readDesk, Cond.initialized RX7, Cond.code yX7_readDesk cX7_readDesk 1 (some .int), Cond.fieldLink RX7 69 "GloveReplyModel" "place" "I", Cond.fieldLink RX7 66 "GloveReplyModel" "textSize" "I", Cond.fieldLink RX7 7 "GloveReplyModel" "text" "[I", Cond.methodLink RX7 87 yX7_readPart, Cond.instanceMethod yX7_readPart, Cond.selects RX7 yX7_readPart yX7_readPart, Cond.code yX7_readPart cX7_readPart 2 (some .boolean)]
def wsX7_desk_r2 : List Cond := [Cond.methodLink RX7 82 yX7_readPerson, Cond.instanceMethod yX7_readPerson, Cond.selects RX7 yX7_readPerson yX7_readPerson, Cond.code yX7_readPerson cX7_readPerson 3 (some .boolean), Cond.methodLink RX7 72 yX7_figure, Cond.instanceMethod yX7_figure, Cond.selects RX7 yX7_figure yX7_figure, Cond.code yX7_figure cX7_figure 3 (some .int), Cond.methodLink RX7 57 yX7_in, Cond.static yX7_in, Cond.code yX7_in cX7_in 6 (some .boolean), Cond.methodLink RX7 85 yX7_readGlove, Cond.instanceMethod yX7_readGlove, Cond.selects RX7 yX7_readGlove yX7_readGlove, Cond.code yX7_readGlove cX7_readGlove 3 (some .boolean)]
def wsX7_desk : List Cond := .code yX7_desk cX7_desk 3 (some .int) :: ((wsX7_desk_r1 ++ wsX7_desk_r2) ++ wsX70)
def wsX7_isWorn : List Cond := .code yX7_isWorn cX7_isWorn 3 (some .boolean) :: ([])
def wsX7_wears : List Cond := .code yX7_wears cX7_wears 5 (some .int) :: ([.fieldLink RX7 61 "GloveReplyModel" "gloves" "I"] ++ wsX70)
def wsX7_lastOf : List Cond := .code yX7_lastOf cX7_lastOf 3 (some .int) :: ([])
def wsX7_doesOn : List Cond := .code yX7_doesOn cX7_doesOn 5 (some .int) :: ([.fieldLink RX7 16 "GloveReplyModel" "glove" "[I", .fieldLink RX7 13 "GloveReplyModel" "person" "[I", .methodLink RX7 97 yX7_lastOf, .static yX7_lastOf, .initialized RX7, .code yX7_lastOf cX7_lastOf 3 (some .int)] ++ wsX70)
def wsX7_keepDoing : List Cond := .code yX7_keepDoing cX7_keepDoing 5 none :: ([.fieldLink RX7 16 "GloveReplyModel" "glove" "[I"] ++ wsX70)
def wsX7_goOff : List Cond := .code yX7_goOff cX7_goOff 3 none :: ([.fieldLink RX7 13 "GloveReplyModel" "person" "[I", .methodLink RX7 101 yX7_keepDoing, .instanceMethod yX7_keepDoing, .selects RX7 yX7_keepDoing yX7_keepDoing, .initialized RX7, .code yX7_keepDoing cX7_keepDoing 5 none, .fieldLink RX7 16 "GloveReplyModel" "glove" "[I"] ++ wsX70)
def wsX7_goHand : List Cond := .code yX7_goHand cX7_goHand 5 (some .int) :: ([.fieldLink RX7 13 "GloveReplyModel" "person" "[I", .methodLink RX7 105 yX7_doesOn, .instanceMethod yX7_doesOn, .selects RX7 yX7_doesOn yX7_doesOn, .initialized RX7, .code yX7_doesOn cX7_doesOn 5 (some .int), .fieldLink RX7 16 "GloveReplyModel" "glove" "[I", .methodLink RX7 97 yX7_lastOf, .static yX7_lastOf, .code yX7_lastOf cX7_lastOf 3 (some .int), .methodLink RX7 101 yX7_keepDoing, .instanceMethod yX7_keepDoing, .selects RX7 yX7_keepDoing yX7_keepDoing, .code yX7_keepDoing cX7_keepDoing 5 none] ++ wsX70)
def wsX7_about : List Cond := .code yX7_about cX7_about 4 (some .int) :: ([.fieldLink RX7 50 "GloveReplyModel" "thrown" "I", .fieldLink RX7 61 "GloveReplyModel" "gloves" "I", .fieldLink RX7 25 "GloveReplyModel" "page" "[I", .fieldLink RX7 54 "GloveReplyModel" "people" "I", .fieldLink RX7 94 "GloveReplyModel" "acts" "I", .fieldLink RX7 113 "GloveReplyModel" "seen" "I", .fieldLink RX7 66 "GloveReplyModel" "textSize" "I", .methodLink RX7 109 yX7_isWorn, .instanceMethod yX7_isWorn, .selects RX7 yX7_isWorn yX7_isWorn, .initialized RX7, .code yX7_isWorn cX7_isWorn 3 (some .boolean)] ++ wsX70)
def wsX7_person : List Cond := .code yX7_person cX7_person 3 (some .int) :: ([.fieldLink RX7 50 "GloveReplyModel" "thrown" "I", .constantLong RX7 120 (2), .fieldLink RX7 13 "GloveReplyModel" "person" "[I", .fieldLink RX7 25 "GloveReplyModel" "page" "[I", .methodLink RX7 116 yX7_noPerson, .instanceMethod yX7_noPerson, .selects RX7 yX7_noPerson yX7_noPerson, .initialized RX7, .code yX7_noPerson cX7_noPerson 2 (some .boolean), .fieldLink RX7 54 "GloveReplyModel" "people" "I", .methodLink RX7 57 yX7_in, .static yX7_in, .code yX7_in cX7_in 6 (some .boolean), .methodLink RX7 122 yX7_wears, .instanceMethod yX7_wears, .selects RX7 yX7_wears yX7_wears, .code yX7_wears cX7_wears 5 (some .int), .fieldLink RX7 61 "GloveReplyModel" "gloves" "I"] ++ wsX70)
def wsX7_glove : List Cond := .code yX7_glove cX7_glove 5 (some .int) :: ([.fieldLink RX7 50 "GloveReplyModel" "thrown" "I", .fieldLink RX7 16 "GloveReplyModel" "glove" "[I", .fieldLink RX7 25 "GloveReplyModel" "page" "[I", .methodLink RX7 125 yX7_noGlove, .instanceMethod yX7_noGlove, .selects RX7 yX7_noGlove yX7_noGlove, .initialized RX7, .code yX7_noGlove cX7_noGlove 2 (some .boolean), .fieldLink RX7 61 "GloveReplyModel" "gloves" "I", .methodLink RX7 57 yX7_in, .static yX7_in, .code yX7_in cX7_in 6 (some .boolean)] ++ wsX70)
def wsX7_note : List Cond := .code yX7_note cX7_note 2 none :: ([.fieldLink RX7 94 "GloveReplyModel" "acts" "I", .fieldLink RX7 31 "GloveReplyModel" "book" "[I", .fieldLink RX7 25 "GloveReplyModel" "page" "[I"] ++ wsX70)
def wsX7_wear_r1 : List Cond := [Cond.fieldLink RX7 50 "GloveReplyModel" "thrown" "I", Cond.fieldLink RX7 25 "GloveReplyModel" "page" "[I", Cond.methodLink RX7 125 yX7_noGlove, Cond.instanceMethod yX7_noGlove, Cond.selects RX7 yX7_noGlove yX7_noGlove, Cond.initialized RX7, Cond.code yX7_noGlove cX7_noGlove 2 (some .boolean), Cond.fieldLink RX7 61 "GloveReplyModel" "gloves" "I", Cond.methodLink RX7 57 yX7_in, Cond.static yX7_in, Cond.code yX7_in cX7_in 6 (some .boolean), Cond.methodLink RX7 116 yX7_noPerson, Cond.instanceMethod yX7_noPerson, Cond.selects RX7 yX7_noPerson yX7_noPerson, Cond.code yX7_noPerson cX7_noPerson 2 (some .boolean), Cond.fieldLink RX7 54 "GloveReplyModel" "people" "I", Cond.methodLink RX7 109 yX7_isWorn, Cond.instanceMethod yX7_isWorn, Cond.selects RX7 yX7_isWorn yX7_isWorn, Cond.code yX7_isWorn cX7_isWorn 3 (some .boolean), Cond.methodLink RX7 122 yX7_wears, Cond.instanceMethod yX7_wears, Cond.selects RX7 yX7_wears yX7_wears, Cond.code yX7_wears cX7_wears 5 (some .int)]
def wsX7_wear_r2 : List Cond := [Cond.methodLink RX7 128 yX7_note, Cond.instanceMethod yX7_note, Cond.selects RX7 yX7_note yX7_note, Cond.code yX7_note cX7_note 2 none, Cond.fieldLink RX7 94 "GloveReplyModel" "acts" "I", Cond.fieldLink RX7 31 "GloveReplyModel" "book" "[I", Cond.methodLink RX7 105 yX7_doesOn, Cond.instanceMethod yX7_doesOn, Cond.selects RX7 yX7_doesOn yX7_doesOn, Cond.code yX7_doesOn cX7_doesOn 5 (some .int), Cond.fieldLink RX7 16 "GloveReplyModel" "glove" "[I", Cond.fieldLink RX7 13 "GloveReplyModel" "person" "[I", Cond.methodLink RX7 97 yX7_lastOf, Cond.static yX7_lastOf, Cond.code yX7_lastOf cX7_lastOf 3 (some .int)]
def wsX7_wear : List Cond := .code yX7_wear cX7_wear 3 (some .int) :: ((wsX7_wear_r1 ++ wsX7_wear_r2) ++ wsX70)
def wsX7_takeOff_r1 : List Cond := [Cond.fieldLink RX7 50 "GloveReplyModel" "thrown" "I", Cond.fieldLink RX7 25 "GloveReplyModel" "page" "[I", Cond.methodLink RX7 125 yX7_noGlove, Cond.instanceMethod yX7_noGlove, Cond.selects RX7 yX7_noGlove yX7_noGlove, Cond.initialized RX7, Cond.code yX7_noGlove cX7_noGlove 2 (some .boolean), Cond.fieldLink RX7 61 "GloveReplyModel" "gloves" "I", Cond.methodLink RX7 57 yX7_in, Cond.static yX7_in, Cond.code yX7_in cX7_in 6 (some .boolean), Cond.methodLink RX7 109 yX7_isWorn, Cond.instanceMethod yX7_isWorn, Cond.selects RX7 yX7_isWorn yX7_isWorn, Cond.code yX7_isWorn cX7_isWorn 3 (some .boolean), Cond.methodLink RX7 128 yX7_note, Cond.instanceMethod yX7_note, Cond.selects RX7 yX7_note yX7_note, Cond.code yX7_note cX7_note 2 none, Cond.fieldLink RX7 94 "GloveReplyModel" "acts" "I", Cond.fieldLink RX7 31 "GloveReplyModel" "book" "[I", Cond.methodLink RX7 131 yX7_goOff, Cond.instanceMethod yX7_goOff, Cond.selects RX7 yX7_goOff yX7_goOff]
def wsX7_takeOff_r2 : List Cond := [Cond.code yX7_goOff cX7_goOff 3 none, Cond.fieldLink RX7 13 "GloveReplyModel" "person" "[I", Cond.methodLink RX7 101 yX7_keepDoing, Cond.instanceMethod yX7_keepDoing, Cond.selects RX7 yX7_keepDoing yX7_keepDoing, Cond.code yX7_keepDoing cX7_keepDoing 5 none, Cond.fieldLink RX7 16 "GloveReplyModel" "glove" "[I"]
def wsX7_takeOff : List Cond := .code yX7_takeOff cX7_takeOff 2 (some .int) :: ((wsX7_takeOff_r1 ++ wsX7_takeOff_r2) ++ wsX70)
def wsX7_wash : List Cond := .code yX7_wash cX7_wash 3 (some .int) :: ([.fieldLink RX7 50 "GloveReplyModel" "thrown" "I", .fieldLink RX7 25 "GloveReplyModel" "page" "[I", .methodLink RX7 125 yX7_noGlove, .instanceMethod yX7_noGlove, .selects RX7 yX7_noGlove yX7_noGlove, .initialized RX7, .code yX7_noGlove cX7_noGlove 2 (some .boolean), .fieldLink RX7 61 "GloveReplyModel" "gloves" "I", .methodLink RX7 57 yX7_in, .static yX7_in, .code yX7_in cX7_in 6 (some .boolean), .methodLink RX7 109 yX7_isWorn, .instanceMethod yX7_isWorn, .selects RX7 yX7_isWorn yX7_isWorn, .code yX7_isWorn cX7_isWorn 3 (some .boolean), .methodLink RX7 128 yX7_note, .instanceMethod yX7_note, .selects RX7 yX7_note yX7_note, .code yX7_note cX7_note 2 none, .fieldLink RX7 94 "GloveReplyModel" "acts" "I", .fieldLink RX7 31 "GloveReplyModel" "book" "[I", .methodLink RX7 97 yX7_lastOf, .static yX7_lastOf, .code yX7_lastOf cX7_lastOf 3 (some .int)] ++ wsX70)
def wsX7_day : List Cond := .code yX7_day cX7_day 3 (some .int) :: ([.fieldLink RX7 50 "GloveReplyModel" "thrown" "I", .fieldLink RX7 61 "GloveReplyModel" "gloves" "I", .fieldLink RX7 25 "GloveReplyModel" "page" "[I", .methodLink RX7 128 yX7_note, .instanceMethod yX7_note, .selects RX7 yX7_note yX7_note, .initialized RX7, .code yX7_note cX7_note 2 none, .fieldLink RX7 94 "GloveReplyModel" "acts" "I", .fieldLink RX7 31 "GloveReplyModel" "book" "[I", .methodLink RX7 109 yX7_isWorn, .instanceMethod yX7_isWorn, .selects RX7 yX7_isWorn yX7_isWorn, .code yX7_isWorn cX7_isWorn 3 (some .boolean), .methodLink RX7 131 yX7_goOff, .instanceMethod yX7_goOff, .selects RX7 yX7_goOff yX7_goOff, .code yX7_goOff cX7_goOff 3 none, .fieldLink RX7 13 "GloveReplyModel" "person" "[I", .methodLink RX7 101 yX7_keepDoing, .instanceMethod yX7_keepDoing, .selects RX7 yX7_keepDoing yX7_keepDoing, .code yX7_keepDoing cX7_keepDoing 5 none, .fieldLink RX7 16 "GloveReplyModel" "glove" "[I"] ++ wsX70)
def wsX7_undo : List Cond := .code yX7_undo cX7_undo 2 (some .int) :: ([.fieldLink RX7 50 "GloveReplyModel" "thrown" "I", .fieldLink RX7 94 "GloveReplyModel" "acts" "I", .fieldLink RX7 25 "GloveReplyModel" "page" "[I", .fieldLink RX7 31 "GloveReplyModel" "book" "[I"] ++ wsX70)
def wsX7_begin : List Cond := .code yX7_begin cX7_begin 2 none :: ([.fieldLink RX7 28 "GloveReplyModel" "trial" "[I", .fieldLink RX7 25 "GloveReplyModel" "page" "[I"] ++ wsX70)
def wsX7_power : List Cond := .code yX7_power cX7_power 4 (some .int) :: ([])
def wsX7_doesBy_r1 : List Cond := [Cond.fieldLink RX7 28 "GloveReplyModel" "trial" "[I", Cond.methodLink RX7 135 yX7_begin, Cond.instanceMethod yX7_begin, Cond.selects RX7 yX7_begin yX7_begin, Cond.initialized RX7, Cond.code yX7_begin cX7_begin 2 none, Cond.fieldLink RX7 25 "GloveReplyModel" "page" "[I", Cond.methodLink RX7 138 yX7_power, Cond.static yX7_power, Cond.code yX7_power cX7_power 4 (some .int), Cond.methodLink RX7 141 yX7_goHand, Cond.instanceMethod yX7_goHand, Cond.selects RX7 yX7_goHand yX7_goHand, Cond.code yX7_goHand cX7_goHand 5 (some .int), Cond.fieldLink RX7 13 "GloveReplyModel" "person" "[I", Cond.methodLink RX7 105 yX7_doesOn, Cond.instanceMethod yX7_doesOn, Cond.selects RX7 yX7_doesOn yX7_doesOn, Cond.code yX7_doesOn cX7_doesOn 5 (some .int), Cond.fieldLink RX7 16 "GloveReplyModel" "glove" "[I", Cond.methodLink RX7 97 yX7_lastOf, Cond.static yX7_lastOf, Cond.code yX7_lastOf cX7_lastOf 3 (some .int), Cond.methodLink RX7 101 yX7_keepDoing]
def wsX7_doesBy_r2 : List Cond := [Cond.instanceMethod yX7_keepDoing, Cond.selects RX7 yX7_keepDoing yX7_keepDoing, Cond.code yX7_keepDoing cX7_keepDoing 5 none]
def wsX7_doesBy : List Cond := .code yX7_doesBy cX7_doesBy 6 (some .int) :: ((wsX7_doesBy_r1 ++ wsX7_doesBy_r2) ++ wsX70)
def wsX7_noRow : List Cond := .code yX7_noRow cX7_noRow 5 (some .boolean) :: ([.constantLong RX7 144 (4), .fieldLink RX7 54 "GloveReplyModel" "people" "I", .methodLink RX7 57 yX7_in, .static yX7_in, .initialized RX7, .code yX7_in cX7_in 6 (some .boolean), .methodLink RX7 138 yX7_power, .static yX7_power, .code yX7_power cX7_power 4 (some .int)] ++ wsX70)
def wsX7_does_r1 : List Cond := [Cond.fieldLink RX7 50 "GloveReplyModel" "thrown" "I", Cond.fieldLink RX7 25 "GloveReplyModel" "page" "[I", Cond.methodLink RX7 125 yX7_noGlove, Cond.instanceMethod yX7_noGlove, Cond.selects RX7 yX7_noGlove yX7_noGlove, Cond.initialized RX7, Cond.code yX7_noGlove cX7_noGlove 2 (some .boolean), Cond.fieldLink RX7 61 "GloveReplyModel" "gloves" "I", Cond.methodLink RX7 57 yX7_in, Cond.static yX7_in, Cond.code yX7_in cX7_in 6 (some .boolean), Cond.methodLink RX7 146 yX7_noRow, Cond.instanceMethod yX7_noRow, Cond.selects RX7 yX7_noRow yX7_noRow, Cond.code yX7_noRow cX7_noRow 5 (some .boolean), Cond.constantLong RX7 144 (4), Cond.fieldLink RX7 54 "GloveReplyModel" "people" "I", Cond.methodLink RX7 138 yX7_power, Cond.static yX7_power, Cond.code yX7_power cX7_power 4 (some .int), Cond.methodLink RX7 109 yX7_isWorn, Cond.instanceMethod yX7_isWorn, Cond.selects RX7 yX7_isWorn yX7_isWorn, Cond.code yX7_isWorn cX7_isWorn 3 (some .boolean)]
def wsX7_does_r2 : List Cond := [Cond.methodLink RX7 150 yX7_doesBy, Cond.instanceMethod yX7_doesBy, Cond.selects RX7 yX7_doesBy yX7_doesBy, Cond.code yX7_doesBy cX7_doesBy 6 (some .int), Cond.fieldLink RX7 28 "GloveReplyModel" "trial" "[I", Cond.methodLink RX7 135 yX7_begin, Cond.instanceMethod yX7_begin, Cond.selects RX7 yX7_begin yX7_begin, Cond.code yX7_begin cX7_begin 2 none, Cond.methodLink RX7 141 yX7_goHand, Cond.instanceMethod yX7_goHand, Cond.selects RX7 yX7_goHand yX7_goHand, Cond.code yX7_goHand cX7_goHand 5 (some .int), Cond.fieldLink RX7 13 "GloveReplyModel" "person" "[I", Cond.methodLink RX7 105 yX7_doesOn, Cond.instanceMethod yX7_doesOn, Cond.selects RX7 yX7_doesOn yX7_doesOn, Cond.code yX7_doesOn cX7_doesOn 5 (some .int), Cond.fieldLink RX7 16 "GloveReplyModel" "glove" "[I", Cond.methodLink RX7 97 yX7_lastOf, Cond.static yX7_lastOf, Cond.code yX7_lastOf cX7_lastOf 3 (some .int), Cond.methodLink RX7 101 yX7_keepDoing, Cond.instanceMethod yX7_keepDoing]
def wsX7_does_r3 : List Cond := [Cond.selects RX7 yX7_keepDoing yX7_keepDoing, Cond.code yX7_keepDoing cX7_keepDoing 5 none]
def wsX7_does : List Cond := .code yX7_does cX7_does 4 (some .int) :: ((wsX7_does_r1 ++ (wsX7_does_r2 ++ wsX7_does_r3)) ++ wsX70)
def wsX7_findComes_r1 : List Cond := [Cond.fieldLink RX7 154 "GloveReplyModel" "comesMany" "I", Cond.fieldLink RX7 157 "GloveReplyModel" "comesRow" "I", Cond.methodLink RX7 138 yX7_power, Cond.static yX7_power, Cond.initialized RX7, Cond.code yX7_power cX7_power 4 (some .int), Cond.methodLink RX7 146 yX7_noRow, Cond.instanceMethod yX7_noRow, Cond.selects RX7 yX7_noRow yX7_noRow, Cond.code yX7_noRow cX7_noRow 5 (some .boolean), Cond.constantLong RX7 144 (4), Cond.fieldLink RX7 54 "GloveReplyModel" "people" "I", Cond.methodLink RX7 57 yX7_in, Cond.static yX7_in, Cond.code yX7_in cX7_in 6 (some .boolean), Cond.methodLink RX7 150 yX7_doesBy, Cond.instanceMethod yX7_doesBy, Cond.selects RX7 yX7_doesBy yX7_doesBy, Cond.code yX7_doesBy cX7_doesBy 6 (some .int), Cond.fieldLink RX7 28 "GloveReplyModel" "trial" "[I", Cond.methodLink RX7 135 yX7_begin, Cond.instanceMethod yX7_begin, Cond.selects RX7 yX7_begin yX7_begin, Cond.code yX7_begin cX7_begin 2 none]
def wsX7_findComes_r2 : List Cond := [Cond.fieldLink RX7 25 "GloveReplyModel" "page" "[I", Cond.methodLink RX7 141 yX7_goHand, Cond.instanceMethod yX7_goHand, Cond.selects RX7 yX7_goHand yX7_goHand, Cond.code yX7_goHand cX7_goHand 5 (some .int), Cond.fieldLink RX7 13 "GloveReplyModel" "person" "[I", Cond.methodLink RX7 105 yX7_doesOn, Cond.instanceMethod yX7_doesOn, Cond.selects RX7 yX7_doesOn yX7_doesOn, Cond.code yX7_doesOn cX7_doesOn 5 (some .int), Cond.fieldLink RX7 16 "GloveReplyModel" "glove" "[I", Cond.methodLink RX7 97 yX7_lastOf, Cond.static yX7_lastOf, Cond.code yX7_lastOf cX7_lastOf 3 (some .int), Cond.methodLink RX7 101 yX7_keepDoing, Cond.instanceMethod yX7_keepDoing, Cond.selects RX7 yX7_keepDoing yX7_keepDoing, Cond.code yX7_keepDoing cX7_keepDoing 5 none]
def wsX7_findComes : List Cond := .code yX7_findComes cX7_findComes 5 none :: ((wsX7_findComes_r1 ++ wsX7_findComes_r2) ++ wsX70)
def wsX7_comes_r1 : List Cond := [Cond.fieldLink RX7 50 "GloveReplyModel" "thrown" "I", Cond.constantLong RX7 160 (7), Cond.fieldLink RX7 25 "GloveReplyModel" "page" "[I", Cond.fieldLink RX7 154 "GloveReplyModel" "comesMany" "I", Cond.fieldLink RX7 157 "GloveReplyModel" "comesRow" "I", Cond.methodLink RX7 125 yX7_noGlove, Cond.instanceMethod yX7_noGlove, Cond.selects RX7 yX7_noGlove yX7_noGlove, Cond.initialized RX7, Cond.code yX7_noGlove cX7_noGlove 2 (some .boolean), Cond.fieldLink RX7 61 "GloveReplyModel" "gloves" "I", Cond.methodLink RX7 57 yX7_in, Cond.static yX7_in, Cond.code yX7_in cX7_in 6 (some .boolean), Cond.methodLink RX7 109 yX7_isWorn, Cond.instanceMethod yX7_isWorn, Cond.selects RX7 yX7_isWorn yX7_isWorn, Cond.code yX7_isWorn cX7_isWorn 3 (some .boolean), Cond.methodLink RX7 162 yX7_findComes, Cond.instanceMethod yX7_findComes, Cond.selects RX7 yX7_findComes yX7_findComes, Cond.code yX7_findComes cX7_findComes 5 none, Cond.methodLink RX7 138 yX7_power, Cond.static yX7_power]
def wsX7_comes_r2 : List Cond := [Cond.code yX7_power cX7_power 4 (some .int), Cond.methodLink RX7 146 yX7_noRow, Cond.instanceMethod yX7_noRow, Cond.selects RX7 yX7_noRow yX7_noRow, Cond.code yX7_noRow cX7_noRow 5 (some .boolean), Cond.constantLong RX7 144 (4), Cond.fieldLink RX7 54 "GloveReplyModel" "people" "I", Cond.methodLink RX7 150 yX7_doesBy, Cond.instanceMethod yX7_doesBy, Cond.selects RX7 yX7_doesBy yX7_doesBy, Cond.code yX7_doesBy cX7_doesBy 6 (some .int), Cond.fieldLink RX7 28 "GloveReplyModel" "trial" "[I", Cond.methodLink RX7 135 yX7_begin, Cond.instanceMethod yX7_begin, Cond.selects RX7 yX7_begin yX7_begin, Cond.code yX7_begin cX7_begin 2 none, Cond.methodLink RX7 141 yX7_goHand, Cond.instanceMethod yX7_goHand, Cond.selects RX7 yX7_goHand yX7_goHand, Cond.code yX7_goHand cX7_goHand 5 (some .int), Cond.fieldLink RX7 13 "GloveReplyModel" "person" "[I", Cond.methodLink RX7 105 yX7_doesOn, Cond.instanceMethod yX7_doesOn, Cond.selects RX7 yX7_doesOn yX7_doesOn]
def wsX7_comes_r3 : List Cond := [Cond.code yX7_doesOn cX7_doesOn 5 (some .int), Cond.fieldLink RX7 16 "GloveReplyModel" "glove" "[I", Cond.methodLink RX7 97 yX7_lastOf, Cond.static yX7_lastOf, Cond.code yX7_lastOf cX7_lastOf 3 (some .int), Cond.methodLink RX7 101 yX7_keepDoing, Cond.instanceMethod yX7_keepDoing, Cond.selects RX7 yX7_keepDoing yX7_keepDoing, Cond.code yX7_keepDoing cX7_keepDoing 5 none]
def wsX7_comes : List Cond := .code yX7_comes cX7_comes 4 (some .int) :: ((wsX7_comes_r1 ++ (wsX7_comes_r2 ++ wsX7_comes_r3)) ++ wsX70)
def wsX7_isRound_r1 : List Cond := [Cond.fieldLink RX7 54 "GloveReplyModel" "people" "I", Cond.fieldLink RX7 28 "GloveReplyModel" "trial" "[I", Cond.methodLink RX7 135 yX7_begin, Cond.instanceMethod yX7_begin, Cond.selects RX7 yX7_begin yX7_begin, Cond.initialized RX7, Cond.code yX7_begin cX7_begin 2 none, Cond.fieldLink RX7 25 "GloveReplyModel" "page" "[I", Cond.methodLink RX7 138 yX7_power, Cond.static yX7_power, Cond.code yX7_power cX7_power 4 (some .int), Cond.methodLink RX7 57 yX7_in, Cond.static yX7_in, Cond.code yX7_in cX7_in 6 (some .boolean), Cond.methodLink RX7 141 yX7_goHand, Cond.instanceMethod yX7_goHand, Cond.selects RX7 yX7_goHand yX7_goHand, Cond.code yX7_goHand cX7_goHand 5 (some .int), Cond.fieldLink RX7 13 "GloveReplyModel" "person" "[I", Cond.methodLink RX7 105 yX7_doesOn, Cond.instanceMethod yX7_doesOn, Cond.selects RX7 yX7_doesOn yX7_doesOn, Cond.code yX7_doesOn cX7_doesOn 5 (some .int), Cond.fieldLink RX7 16 "GloveReplyModel" "glove" "[I"]
def wsX7_isRound_r2 : List Cond := [Cond.methodLink RX7 97 yX7_lastOf, Cond.static yX7_lastOf, Cond.code yX7_lastOf cX7_lastOf 3 (some .int), Cond.methodLink RX7 101 yX7_keepDoing, Cond.instanceMethod yX7_keepDoing, Cond.selects RX7 yX7_keepDoing yX7_keepDoing, Cond.code yX7_keepDoing cX7_keepDoing 5 none]
def wsX7_isRound : List Cond := .code yX7_isRound cX7_isRound 9 (some .boolean) :: ((wsX7_isRound_r1 ++ wsX7_isRound_r2) ++ wsX70)
def wsX7_findRounds_r1 : List Cond := [Cond.fieldLink RX7 166 "GloveReplyModel" "roundMany" "I", Cond.fieldLink RX7 169 "GloveReplyModel" "roundFirst" "I", Cond.fieldLink RX7 54 "GloveReplyModel" "people" "I", Cond.methodLink RX7 138 yX7_power, Cond.static yX7_power, Cond.initialized RX7, Cond.code yX7_power cX7_power 4 (some .int), Cond.methodLink RX7 172 yX7_isRound, Cond.instanceMethod yX7_isRound, Cond.selects RX7 yX7_isRound yX7_isRound, Cond.code yX7_isRound cX7_isRound 9 (some .boolean), Cond.fieldLink RX7 28 "GloveReplyModel" "trial" "[I", Cond.methodLink RX7 135 yX7_begin, Cond.instanceMethod yX7_begin, Cond.selects RX7 yX7_begin yX7_begin, Cond.code yX7_begin cX7_begin 2 none, Cond.fieldLink RX7 25 "GloveReplyModel" "page" "[I", Cond.methodLink RX7 57 yX7_in, Cond.static yX7_in, Cond.code yX7_in cX7_in 6 (some .boolean), Cond.methodLink RX7 141 yX7_goHand, Cond.instanceMethod yX7_goHand, Cond.selects RX7 yX7_goHand yX7_goHand, Cond.code yX7_goHand cX7_goHand 5 (some .int)]
def wsX7_findRounds_r2 : List Cond := [Cond.fieldLink RX7 13 "GloveReplyModel" "person" "[I", Cond.methodLink RX7 105 yX7_doesOn, Cond.instanceMethod yX7_doesOn, Cond.selects RX7 yX7_doesOn yX7_doesOn, Cond.code yX7_doesOn cX7_doesOn 5 (some .int), Cond.fieldLink RX7 16 "GloveReplyModel" "glove" "[I", Cond.methodLink RX7 97 yX7_lastOf, Cond.static yX7_lastOf, Cond.code yX7_lastOf cX7_lastOf 3 (some .int), Cond.methodLink RX7 101 yX7_keepDoing, Cond.instanceMethod yX7_keepDoing, Cond.selects RX7 yX7_keepDoing yX7_keepDoing, Cond.code yX7_keepDoing cX7_keepDoing 5 none]
def wsX7_findRounds : List Cond := .code yX7_findRounds cX7_findRounds 3 none :: ((wsX7_findRounds_r1 ++ wsX7_findRounds_r2) ++ wsX70)
def wsX7_rounds_r1 : List Cond := [Cond.fieldLink RX7 50 "GloveReplyModel" "thrown" "I", Cond.fieldLink RX7 25 "GloveReplyModel" "page" "[I", Cond.fieldLink RX7 166 "GloveReplyModel" "roundMany" "I", Cond.fieldLink RX7 169 "GloveReplyModel" "roundFirst" "I", Cond.methodLink RX7 125 yX7_noGlove, Cond.instanceMethod yX7_noGlove, Cond.selects RX7 yX7_noGlove yX7_noGlove, Cond.initialized RX7, Cond.code yX7_noGlove cX7_noGlove 2 (some .boolean), Cond.fieldLink RX7 61 "GloveReplyModel" "gloves" "I", Cond.methodLink RX7 57 yX7_in, Cond.static yX7_in, Cond.code yX7_in cX7_in 6 (some .boolean), Cond.methodLink RX7 109 yX7_isWorn, Cond.instanceMethod yX7_isWorn, Cond.selects RX7 yX7_isWorn yX7_isWorn, Cond.code yX7_isWorn cX7_isWorn 3 (some .boolean), Cond.methodLink RX7 175 yX7_findRounds, Cond.instanceMethod yX7_findRounds, Cond.selects RX7 yX7_findRounds yX7_findRounds, Cond.code yX7_findRounds cX7_findRounds 3 none, Cond.fieldLink RX7 54 "GloveReplyModel" "people" "I", Cond.methodLink RX7 138 yX7_power, Cond.static yX7_power]
def wsX7_rounds_r2 : List Cond := [Cond.code yX7_power cX7_power 4 (some .int), Cond.methodLink RX7 172 yX7_isRound, Cond.instanceMethod yX7_isRound, Cond.selects RX7 yX7_isRound yX7_isRound, Cond.code yX7_isRound cX7_isRound 9 (some .boolean), Cond.fieldLink RX7 28 "GloveReplyModel" "trial" "[I", Cond.methodLink RX7 135 yX7_begin, Cond.instanceMethod yX7_begin, Cond.selects RX7 yX7_begin yX7_begin, Cond.code yX7_begin cX7_begin 2 none, Cond.methodLink RX7 141 yX7_goHand, Cond.instanceMethod yX7_goHand, Cond.selects RX7 yX7_goHand yX7_goHand, Cond.code yX7_goHand cX7_goHand 5 (some .int), Cond.fieldLink RX7 13 "GloveReplyModel" "person" "[I", Cond.methodLink RX7 105 yX7_doesOn, Cond.instanceMethod yX7_doesOn, Cond.selects RX7 yX7_doesOn yX7_doesOn, Cond.code yX7_doesOn cX7_doesOn 5 (some .int), Cond.fieldLink RX7 16 "GloveReplyModel" "glove" "[I", Cond.methodLink RX7 97 yX7_lastOf, Cond.static yX7_lastOf, Cond.code yX7_lastOf cX7_lastOf 3 (some .int), Cond.methodLink RX7 101 yX7_keepDoing]
def wsX7_rounds_r3 : List Cond := [Cond.instanceMethod yX7_keepDoing, Cond.selects RX7 yX7_keepDoing yX7_keepDoing, Cond.code yX7_keepDoing cX7_keepDoing 5 none]
def wsX7_rounds : List Cond := .code yX7_rounds cX7_rounds 3 (some .int) :: ((wsX7_rounds_r1 ++ (wsX7_rounds_r2 ++ wsX7_rounds_r3)) ++ wsX70)
def wsX7_givesAway_r1 : List Cond := [Cond.fieldLink RX7 50 "GloveReplyModel" "thrown" "I", Cond.fieldLink RX7 25 "GloveReplyModel" "page" "[I", Cond.fieldLink RX7 54 "GloveReplyModel" "people" "I", Cond.fieldLink RX7 13 "GloveReplyModel" "person" "[I", Cond.methodLink RX7 125 yX7_noGlove, Cond.instanceMethod yX7_noGlove, Cond.selects RX7 yX7_noGlove yX7_noGlove, Cond.initialized RX7, Cond.code yX7_noGlove cX7_noGlove 2 (some .boolean), Cond.fieldLink RX7 61 "GloveReplyModel" "gloves" "I", Cond.methodLink RX7 57 yX7_in, Cond.static yX7_in, Cond.code yX7_in cX7_in 6 (some .boolean), Cond.methodLink RX7 109 yX7_isWorn, Cond.instanceMethod yX7_isWorn, Cond.selects RX7 yX7_isWorn yX7_isWorn, Cond.code yX7_isWorn cX7_isWorn 3 (some .boolean), Cond.methodLink RX7 105 yX7_doesOn, Cond.instanceMethod yX7_doesOn, Cond.selects RX7 yX7_doesOn yX7_doesOn, Cond.code yX7_doesOn cX7_doesOn 5 (some .int), Cond.fieldLink RX7 16 "GloveReplyModel" "glove" "[I", Cond.methodLink RX7 97 yX7_lastOf, Cond.static yX7_lastOf]
def wsX7_givesAway_r2 : List Cond := [Cond.code yX7_lastOf cX7_lastOf 3 (some .int)]
def wsX7_givesAway : List Cond := .code yX7_givesAway cX7_givesAway 7 (some .int) :: ((wsX7_givesAway_r1 ++ wsX7_givesAway_r2) ++ wsX70)
def wsX7_leftOf : List Cond := .code yX7_leftOf cX7_leftOf 4 (some .int) :: ([.fieldLink RX7 25 "GloveReplyModel" "page" "[I"] ++ wsX70)
def wsX7_leftBy : List Cond := .code yX7_leftBy cX7_leftBy 3 (some .int) :: ([.fieldLink RX7 50 "GloveReplyModel" "thrown" "I", .constantLong RX7 179 (3), .methodLink RX7 125 yX7_noGlove, .instanceMethod yX7_noGlove, .selects RX7 yX7_noGlove yX7_noGlove, .initialized RX7, .code yX7_noGlove cX7_noGlove 2 (some .boolean), .fieldLink RX7 61 "GloveReplyModel" "gloves" "I", .methodLink RX7 57 yX7_in, .static yX7_in, .code yX7_in cX7_in 6 (some .boolean), .methodLink RX7 181 yX7_leftOf, .instanceMethod yX7_leftOf, .selects RX7 yX7_leftOf yX7_leftOf, .code yX7_leftOf cX7_leftOf 4 (some .int), .fieldLink RX7 25 "GloveReplyModel" "page" "[I"] ++ wsX70)
def wsX7_washes : List Cond := .code yX7_washes cX7_washes 4 (some .int) :: ([.fieldLink RX7 50 "GloveReplyModel" "thrown" "I", .constantLong RX7 160 (7), .methodLink RX7 125 yX7_noGlove, .instanceMethod yX7_noGlove, .selects RX7 yX7_noGlove yX7_noGlove, .initialized RX7, .code yX7_noGlove cX7_noGlove 2 (some .boolean), .fieldLink RX7 61 "GloveReplyModel" "gloves" "I", .methodLink RX7 57 yX7_in, .static yX7_in, .code yX7_in cX7_in 6 (some .boolean), .methodLink RX7 181 yX7_leftOf, .instanceMethod yX7_leftOf, .selects RX7 yX7_leftOf yX7_leftOf, .code yX7_leftOf cX7_leftOf 4 (some .int), .fieldLink RX7 25 "GloveReplyModel" "page" "[I"] ++ wsX70)
def wsX7_both : List Cond := .code yX7_both cX7_both 3 (some .int) :: ([.fieldLink RX7 50 "GloveReplyModel" "thrown" "I", .fieldLink RX7 25 "GloveReplyModel" "page" "[I", .methodLink RX7 125 yX7_noGlove, .instanceMethod yX7_noGlove, .selects RX7 yX7_noGlove yX7_noGlove, .initialized RX7, .code yX7_noGlove cX7_noGlove 2 (some .boolean), .fieldLink RX7 61 "GloveReplyModel" "gloves" "I", .methodLink RX7 57 yX7_in, .static yX7_in, .code yX7_in cX7_in 6 (some .boolean), .methodLink RX7 97 yX7_lastOf, .static yX7_lastOf, .code yX7_lastOf cX7_lastOf 3 (some .int)] ++ wsX70)
def wsX7_either : List Cond := .code yX7_either cX7_either 5 (some .int) :: ([.fieldLink RX7 50 "GloveReplyModel" "thrown" "I", .fieldLink RX7 25 "GloveReplyModel" "page" "[I", .methodLink RX7 125 yX7_noGlove, .instanceMethod yX7_noGlove, .selects RX7 yX7_noGlove yX7_noGlove, .initialized RX7, .code yX7_noGlove cX7_noGlove 2 (some .boolean), .fieldLink RX7 61 "GloveReplyModel" "gloves" "I", .methodLink RX7 57 yX7_in, .static yX7_in, .code yX7_in cX7_in 6 (some .boolean), .methodLink RX7 97 yX7_lastOf, .static yX7_lastOf, .code yX7_lastOf cX7_lastOf 3 (some .int)] ++ wsX70)
def wsX7_see : List Cond := .code yX7_see cX7_see 4 (some .int) :: ([.fieldLink RX7 50 "GloveReplyModel" "thrown" "I", .constantLong RX7 160 (7), .fieldLink RX7 113 "GloveReplyModel" "seen" "I", .fieldLink RX7 41 "GloveReplyModel" "seenGlove" "[I", .fieldLink RX7 44 "GloveReplyModel" "seenPerson" "[I", .fieldLink RX7 47 "GloveReplyModel" "seenDoing" "[I", .methodLink RX7 125 yX7_noGlove, .instanceMethod yX7_noGlove, .selects RX7 yX7_noGlove yX7_noGlove, .initialized RX7, .code yX7_noGlove cX7_noGlove 2 (some .boolean), .fieldLink RX7 61 "GloveReplyModel" "gloves" "I", .methodLink RX7 57 yX7_in, .static yX7_in, .code yX7_in cX7_in 6 (some .boolean), .methodLink RX7 116 yX7_noPerson, .instanceMethod yX7_noPerson, .selects RX7 yX7_noPerson yX7_noPerson, .code yX7_noPerson cX7_noPerson 2 (some .boolean), .fieldLink RX7 54 "GloveReplyModel" "people" "I"] ++ wsX70)
def wsX7_unsee : List Cond := .code yX7_unsee cX7_unsee 2 (some .int) :: ([.fieldLink RX7 50 "GloveReplyModel" "thrown" "I", .fieldLink RX7 113 "GloveReplyModel" "seen" "I"] ++ wsX70)
def wsX7_looks : List Cond := .code yX7_looks cX7_looks 3 (some .boolean) :: ([.fieldLink RX7 41 "GloveReplyModel" "seenGlove" "[I", .fieldLink RX7 44 "GloveReplyModel" "seenPerson" "[I", .fieldLink RX7 54 "GloveReplyModel" "people" "I"] ++ wsX70)
def wsX7_findWore_r1 : List Cond := [Cond.fieldLink RX7 113 "GloveReplyModel" "seen" "I", Cond.fieldLink RX7 187 "GloveReplyModel" "woreMany" "I", Cond.fieldLink RX7 190 "GloveReplyModel" "woreFirst" "I", Cond.fieldLink RX7 54 "GloveReplyModel" "people" "I", Cond.fieldLink RX7 28 "GloveReplyModel" "trial" "[I", Cond.fieldLink RX7 44 "GloveReplyModel" "seenPerson" "[I", Cond.fieldLink RX7 47 "GloveReplyModel" "seenDoing" "[I", Cond.methodLink RX7 184 yX7_looks, Cond.instanceMethod yX7_looks, Cond.selects RX7 yX7_looks yX7_looks, Cond.initialized RX7, Cond.code yX7_looks cX7_looks 3 (some .boolean), Cond.fieldLink RX7 41 "GloveReplyModel" "seenGlove" "[I", Cond.methodLink RX7 138 yX7_power, Cond.static yX7_power, Cond.code yX7_power cX7_power 4 (some .int), Cond.methodLink RX7 135 yX7_begin, Cond.instanceMethod yX7_begin, Cond.selects RX7 yX7_begin yX7_begin, Cond.code yX7_begin cX7_begin 2 none, Cond.fieldLink RX7 25 "GloveReplyModel" "page" "[I", Cond.methodLink RX7 141 yX7_goHand, Cond.instanceMethod yX7_goHand, Cond.selects RX7 yX7_goHand yX7_goHand]
def wsX7_findWore_r2 : List Cond := [Cond.code yX7_goHand cX7_goHand 5 (some .int), Cond.fieldLink RX7 13 "GloveReplyModel" "person" "[I", Cond.methodLink RX7 105 yX7_doesOn, Cond.instanceMethod yX7_doesOn, Cond.selects RX7 yX7_doesOn yX7_doesOn, Cond.code yX7_doesOn cX7_doesOn 5 (some .int), Cond.fieldLink RX7 16 "GloveReplyModel" "glove" "[I", Cond.methodLink RX7 97 yX7_lastOf, Cond.static yX7_lastOf, Cond.code yX7_lastOf cX7_lastOf 3 (some .int), Cond.methodLink RX7 101 yX7_keepDoing, Cond.instanceMethod yX7_keepDoing, Cond.selects RX7 yX7_keepDoing yX7_keepDoing, Cond.code yX7_keepDoing cX7_keepDoing 5 none]
def wsX7_findWore : List Cond := .code yX7_findWore cX7_findWore 9 none :: ((wsX7_findWore_r1 ++ wsX7_findWore_r2) ++ wsX70)
def wsX7_wore_r1 : List Cond := [Cond.fieldLink RX7 50 "GloveReplyModel" "thrown" "I", Cond.fieldLink RX7 25 "GloveReplyModel" "page" "[I", Cond.fieldLink RX7 187 "GloveReplyModel" "woreMany" "I", Cond.fieldLink RX7 190 "GloveReplyModel" "woreFirst" "I", Cond.methodLink RX7 125 yX7_noGlove, Cond.instanceMethod yX7_noGlove, Cond.selects RX7 yX7_noGlove yX7_noGlove, Cond.initialized RX7, Cond.code yX7_noGlove cX7_noGlove 2 (some .boolean), Cond.fieldLink RX7 61 "GloveReplyModel" "gloves" "I", Cond.methodLink RX7 57 yX7_in, Cond.static yX7_in, Cond.code yX7_in cX7_in 6 (some .boolean), Cond.methodLink RX7 109 yX7_isWorn, Cond.instanceMethod yX7_isWorn, Cond.selects RX7 yX7_isWorn yX7_isWorn, Cond.code yX7_isWorn cX7_isWorn 3 (some .boolean), Cond.methodLink RX7 193 yX7_findWore, Cond.instanceMethod yX7_findWore, Cond.selects RX7 yX7_findWore yX7_findWore, Cond.code yX7_findWore cX7_findWore 9 none, Cond.fieldLink RX7 113 "GloveReplyModel" "seen" "I", Cond.fieldLink RX7 54 "GloveReplyModel" "people" "I", Cond.fieldLink RX7 28 "GloveReplyModel" "trial" "[I"]
def wsX7_wore_r2 : List Cond := [Cond.fieldLink RX7 44 "GloveReplyModel" "seenPerson" "[I", Cond.fieldLink RX7 47 "GloveReplyModel" "seenDoing" "[I", Cond.methodLink RX7 184 yX7_looks, Cond.instanceMethod yX7_looks, Cond.selects RX7 yX7_looks yX7_looks, Cond.code yX7_looks cX7_looks 3 (some .boolean), Cond.fieldLink RX7 41 "GloveReplyModel" "seenGlove" "[I", Cond.methodLink RX7 138 yX7_power, Cond.static yX7_power, Cond.code yX7_power cX7_power 4 (some .int), Cond.methodLink RX7 135 yX7_begin, Cond.instanceMethod yX7_begin, Cond.selects RX7 yX7_begin yX7_begin, Cond.code yX7_begin cX7_begin 2 none, Cond.methodLink RX7 141 yX7_goHand, Cond.instanceMethod yX7_goHand, Cond.selects RX7 yX7_goHand yX7_goHand, Cond.code yX7_goHand cX7_goHand 5 (some .int), Cond.fieldLink RX7 13 "GloveReplyModel" "person" "[I", Cond.methodLink RX7 105 yX7_doesOn, Cond.instanceMethod yX7_doesOn, Cond.selects RX7 yX7_doesOn yX7_doesOn, Cond.code yX7_doesOn cX7_doesOn 5 (some .int), Cond.fieldLink RX7 16 "GloveReplyModel" "glove" "[I"]
def wsX7_wore_r3 : List Cond := [Cond.methodLink RX7 97 yX7_lastOf, Cond.static yX7_lastOf, Cond.code yX7_lastOf cX7_lastOf 3 (some .int), Cond.methodLink RX7 101 yX7_keepDoing, Cond.instanceMethod yX7_keepDoing, Cond.selects RX7 yX7_keepDoing yX7_keepDoing, Cond.code yX7_keepDoing cX7_keepDoing 5 none]
def wsX7_wore : List Cond := .code yX7_wore cX7_wore 3 (some .int) :: ((wsX7_wore_r1 ++ (wsX7_wore_r2 ++ wsX7_wore_r3)) ++ wsX70)
def wsX7_worthTo : List Cond := .code yX7_worthTo cX7_worthTo 3 (some .int) :: ([.fieldLink RX7 25 "GloveReplyModel" "page" "[I", .fieldLink RX7 13 "GloveReplyModel" "person" "[I", .methodLink RX7 105 yX7_doesOn, .instanceMethod yX7_doesOn, .selects RX7 yX7_doesOn yX7_doesOn, .initialized RX7, .code yX7_doesOn cX7_doesOn 5 (some .int), .fieldLink RX7 16 "GloveReplyModel" "glove" "[I", .methodLink RX7 97 yX7_lastOf, .static yX7_lastOf, .code yX7_lastOf cX7_lastOf 3 (some .int)] ++ wsX70)
def wsX7_findBids : List Cond := .code yX7_findBids cX7_findBids 13 none :: ([.fieldLink RX7 196 "GloveReplyModel" "bidMany" "I", .fieldLink RX7 199 "GloveReplyModel" "bidFirst" "I", .methodLink RX7 202 yX7_worthTo, .instanceMethod yX7_worthTo, .selects RX7 yX7_worthTo yX7_worthTo, .initialized RX7, .code yX7_worthTo cX7_worthTo 3 (some .int), .fieldLink RX7 25 "GloveReplyModel" "page" "[I", .fieldLink RX7 13 "GloveReplyModel" "person" "[I", .methodLink RX7 105 yX7_doesOn, .instanceMethod yX7_doesOn, .selects RX7 yX7_doesOn yX7_doesOn, .code yX7_doesOn cX7_doesOn 5 (some .int), .fieldLink RX7 16 "GloveReplyModel" "glove" "[I", .methodLink RX7 97 yX7_lastOf, .static yX7_lastOf, .code yX7_lastOf cX7_lastOf 3 (some .int)] ++ wsX70)
def wsX7_bids_r1 : List Cond := [Cond.fieldLink RX7 50 "GloveReplyModel" "thrown" "I", Cond.fieldLink RX7 25 "GloveReplyModel" "page" "[I", Cond.fieldLink RX7 196 "GloveReplyModel" "bidMany" "I", Cond.fieldLink RX7 199 "GloveReplyModel" "bidFirst" "I", Cond.methodLink RX7 125 yX7_noGlove, Cond.instanceMethod yX7_noGlove, Cond.selects RX7 yX7_noGlove yX7_noGlove, Cond.initialized RX7, Cond.code yX7_noGlove cX7_noGlove 2 (some .boolean), Cond.fieldLink RX7 61 "GloveReplyModel" "gloves" "I", Cond.methodLink RX7 57 yX7_in, Cond.static yX7_in, Cond.code yX7_in cX7_in 6 (some .boolean), Cond.methodLink RX7 116 yX7_noPerson, Cond.instanceMethod yX7_noPerson, Cond.selects RX7 yX7_noPerson yX7_noPerson, Cond.code yX7_noPerson cX7_noPerson 2 (some .boolean), Cond.fieldLink RX7 54 "GloveReplyModel" "people" "I", Cond.methodLink RX7 109 yX7_isWorn, Cond.instanceMethod yX7_isWorn, Cond.selects RX7 yX7_isWorn yX7_isWorn, Cond.code yX7_isWorn cX7_isWorn 3 (some .boolean), Cond.methodLink RX7 205 yX7_findBids, Cond.instanceMethod yX7_findBids]
def wsX7_bids_r2 : List Cond := [Cond.selects RX7 yX7_findBids yX7_findBids, Cond.code yX7_findBids cX7_findBids 13 none, Cond.methodLink RX7 202 yX7_worthTo, Cond.instanceMethod yX7_worthTo, Cond.selects RX7 yX7_worthTo yX7_worthTo, Cond.code yX7_worthTo cX7_worthTo 3 (some .int), Cond.fieldLink RX7 13 "GloveReplyModel" "person" "[I", Cond.methodLink RX7 105 yX7_doesOn, Cond.instanceMethod yX7_doesOn, Cond.selects RX7 yX7_doesOn yX7_doesOn, Cond.code yX7_doesOn cX7_doesOn 5 (some .int), Cond.fieldLink RX7 16 "GloveReplyModel" "glove" "[I", Cond.methodLink RX7 97 yX7_lastOf, Cond.static yX7_lastOf, Cond.code yX7_lastOf cX7_lastOf 3 (some .int)]
def wsX7_bids : List Cond := .code yX7_bids cX7_bids 5 (some .int) :: ((wsX7_bids_r1 ++ wsX7_bids_r2) ++ wsX70)
def wsX7_divisor : List Cond := .code yX7_divisor cX7_divisor 5 (some .int) :: ([])
def wsX7_lost_r1 : List Cond := [Cond.fieldLink RX7 50 "GloveReplyModel" "thrown" "I", Cond.constantLong RX7 160 (7), Cond.constantLong RX7 179 (3), Cond.fieldLink RX7 25 "GloveReplyModel" "page" "[I", Cond.fieldLink RX7 54 "GloveReplyModel" "people" "I", Cond.fieldLink RX7 28 "GloveReplyModel" "trial" "[I", Cond.methodLink RX7 125 yX7_noGlove, Cond.instanceMethod yX7_noGlove, Cond.selects RX7 yX7_noGlove yX7_noGlove, Cond.initialized RX7, Cond.code yX7_noGlove cX7_noGlove 2 (some .boolean), Cond.fieldLink RX7 61 "GloveReplyModel" "gloves" "I", Cond.methodLink RX7 57 yX7_in, Cond.static yX7_in, Cond.code yX7_in cX7_in 6 (some .boolean), Cond.methodLink RX7 116 yX7_noPerson, Cond.instanceMethod yX7_noPerson, Cond.selects RX7 yX7_noPerson yX7_noPerson, Cond.code yX7_noPerson cX7_noPerson 2 (some .boolean), Cond.methodLink RX7 109 yX7_isWorn, Cond.instanceMethod yX7_isWorn, Cond.selects RX7 yX7_isWorn yX7_isWorn, Cond.code yX7_isWorn cX7_isWorn 3 (some .boolean), Cond.methodLink RX7 138 yX7_power]
def wsX7_lost_r2 : List Cond := [Cond.static yX7_power, Cond.code yX7_power cX7_power 4 (some .int), Cond.methodLink RX7 135 yX7_begin, Cond.instanceMethod yX7_begin, Cond.selects RX7 yX7_begin yX7_begin, Cond.code yX7_begin cX7_begin 2 none, Cond.methodLink RX7 141 yX7_goHand, Cond.instanceMethod yX7_goHand, Cond.selects RX7 yX7_goHand yX7_goHand, Cond.code yX7_goHand cX7_goHand 5 (some .int), Cond.fieldLink RX7 13 "GloveReplyModel" "person" "[I", Cond.methodLink RX7 105 yX7_doesOn, Cond.instanceMethod yX7_doesOn, Cond.selects RX7 yX7_doesOn yX7_doesOn, Cond.code yX7_doesOn cX7_doesOn 5 (some .int), Cond.fieldLink RX7 16 "GloveReplyModel" "glove" "[I", Cond.methodLink RX7 97 yX7_lastOf, Cond.static yX7_lastOf, Cond.code yX7_lastOf cX7_lastOf 3 (some .int), Cond.methodLink RX7 101 yX7_keepDoing, Cond.instanceMethod yX7_keepDoing, Cond.selects RX7 yX7_keepDoing yX7_keepDoing, Cond.code yX7_keepDoing cX7_keepDoing 5 none, Cond.methodLink RX7 209 yX7_divisor]
def wsX7_lost_r3 : List Cond := [Cond.static yX7_divisor, Cond.code yX7_divisor cX7_divisor 5 (some .int)]
def wsX7_lost : List Cond := .code yX7_lost cX7_lost 10 (some .int) :: ((wsX7_lost_r1 ++ (wsX7_lost_r2 ++ wsX7_lost_r3)) ++ wsX70)
def wsX7_seed : List Cond := .code yX7_seed cX7_seed 5 (some .long) :: ([.fieldLink RX7 50 "GloveReplyModel" "thrown" "I", .fieldLink RX7 212 "GloveReplyModel" "seed" "J"] ++ wsX70)
def wsX7_weeks_r1 : List Cond := [Cond.fieldLink RX7 50 "GloveReplyModel" "thrown" "I", Cond.constantLong RX7 216 (30), Cond.fieldLink RX7 212 "GloveReplyModel" "seed" "J", Cond.constantLong RX7 218 (6364136223846793005), Cond.constantLong RX7 220 (1442695040888963407), Cond.constantLong RX7 222 (20), Cond.fieldLink RX7 61 "GloveReplyModel" "gloves" "I", Cond.fieldLink RX7 54 "GloveReplyModel" "people" "I", Cond.fieldLink RX7 28 "GloveReplyModel" "trial" "[I", Cond.fieldLink RX7 13 "GloveReplyModel" "person" "[I", Cond.methodLink RX7 57 yX7_in, Cond.static yX7_in, Cond.initialized RX7, Cond.code yX7_in cX7_in 6 (some .boolean), Cond.methodLink RX7 135 yX7_begin, Cond.instanceMethod yX7_begin, Cond.selects RX7 yX7_begin yX7_begin, Cond.code yX7_begin cX7_begin 2 none, Cond.fieldLink RX7 25 "GloveReplyModel" "page" "[I", Cond.methodLink RX7 109 yX7_isWorn, Cond.instanceMethod yX7_isWorn, Cond.selects RX7 yX7_isWorn yX7_isWorn, Cond.code yX7_isWorn cX7_isWorn 3 (some .boolean), Cond.methodLink RX7 122 yX7_wears]
def wsX7_weeks_r2 : List Cond := [Cond.instanceMethod yX7_wears, Cond.selects RX7 yX7_wears yX7_wears, Cond.code yX7_wears cX7_wears 5 (some .int), Cond.methodLink RX7 141 yX7_goHand, Cond.instanceMethod yX7_goHand, Cond.selects RX7 yX7_goHand yX7_goHand, Cond.code yX7_goHand cX7_goHand 5 (some .int), Cond.methodLink RX7 105 yX7_doesOn, Cond.instanceMethod yX7_doesOn, Cond.selects RX7 yX7_doesOn yX7_doesOn, Cond.code yX7_doesOn cX7_doesOn 5 (some .int), Cond.fieldLink RX7 16 "GloveReplyModel" "glove" "[I", Cond.methodLink RX7 97 yX7_lastOf, Cond.static yX7_lastOf, Cond.code yX7_lastOf cX7_lastOf 3 (some .int), Cond.methodLink RX7 101 yX7_keepDoing, Cond.instanceMethod yX7_keepDoing, Cond.selects RX7 yX7_keepDoing yX7_keepDoing, Cond.code yX7_keepDoing cX7_keepDoing 5 none]
def wsX7_weeks : List Cond := .code yX7_weeks cX7_weeks 7 (some .int) :: ((wsX7_weeks_r1 ++ wsX7_weeks_r2) ++ wsX70)
def wsX7_keep : List Cond := .code yX7_keep cX7_keep 3 (some .int) :: ([.fieldLink RX7 50 "GloveReplyModel" "thrown" "I", .fieldLink RX7 37 "GloveReplyModel" "isKept" "[Z", .fieldLink RX7 34 "GloveReplyModel" "kept" "[I", .fieldLink RX7 25 "GloveReplyModel" "page" "[I", .methodLink RX7 57 yX7_in, .static yX7_in, .initialized RX7, .code yX7_in cX7_in 6 (some .boolean)] ++ wsX70)
def wsX7_again : List Cond := .code yX7_again cX7_again 3 (some .int) :: ([.fieldLink RX7 50 "GloveReplyModel" "thrown" "I", .fieldLink RX7 37 "GloveReplyModel" "isKept" "[Z", .fieldLink RX7 25 "GloveReplyModel" "page" "[I", .fieldLink RX7 34 "GloveReplyModel" "kept" "[I", .fieldLink RX7 94 "GloveReplyModel" "acts" "I", .methodLink RX7 57 yX7_in, .static yX7_in, .initialized RX7, .code yX7_in cX7_in 6 (some .boolean)] ++ wsX70)
def wsL_law_r1 : List Cond := [Cond.classLink RL 7 RX6, Cond.instantiable RX6 9, Cond.initialized RX6, Cond.classLink RL 10 RX7, Cond.instantiable RX7 31, Cond.initialized RX7, Cond.constantLong RL 119 (4294967295), Cond.methodLink RL 9 yX6_init, Cond.instanceMethod yX6_init, Cond.code yX6_init cX6_init 2 none, Cond.methodLink RX6 1 objectInit, Cond.instanceMethod objectInit, Cond.code objectInit ⟨#[0xb1]⟩ 1 none, Cond.classLink RX6 7 RX5, Cond.instantiable RX5 2, Cond.initialized RX5, Cond.fieldLink RX6 10 "GloveReply" "theText" "LGloveReply$Text;", Cond.classLink RX6 16 RX1, Cond.instantiable RX1 8, Cond.initialized RX1, Cond.fieldLink RX6 19 "GloveReply" "theDesk" "LGloveReply$Desk;", Cond.classLink RX6 23 RX2, Cond.instantiable RX2 4, Cond.initialized RX2]
def wsL_law_r2 : List Cond := [Cond.fieldLink RX6 26 "GloveReply" "now" "LGloveReply$Moment;", Cond.fieldLink RX6 30 "GloveReply" "trial" "LGloveReply$Moment;", Cond.classLink RX6 33 RX0, Cond.instantiable RX0 3, Cond.initialized RX0, Cond.fieldLink RX6 36 "GloveReply" "acts" "LGloveReply$Acts;", Cond.classLink RX6 40 RX3, Cond.instantiable RX3 4, Cond.initialized RX3, Cond.fieldLink RX6 43 "GloveReply" "sightings" "LGloveReply$Sightings;", Cond.classLink RX6 47 RX4, Cond.instantiable RX4 2, Cond.initialized RX4, Cond.fieldLink RX6 50 "GloveReply" "tally" "LGloveReply$Tally;", Cond.fieldLink RX6 54 "GloveReply" "slots" "[LGloveReply$Moment;", Cond.fieldLink RX6 58 "GloveReply" "theSeed" "J", Cond.methodLink RX6 9 yX5_init, Cond.instanceMethod yX5_init, Cond.code yX5_init cX5_init 1 none, Cond.methodLink RX5 3 objectInit, Cond.arrayClass .int, Cond.fieldLink RX5 9 "GloveReply$Text" "letters" "[I", Cond.fieldLink RX5 15 "GloveReply$Text" "length" "I", Cond.methodLink RX6 18 yX1_init]
def wsL_law_r3 : List Cond := [Cond.instanceMethod yX1_init, Cond.code yX1_init cX1_init 1 none, Cond.methodLink RX1 3 objectInit, Cond.fieldLink RX1 9 "GloveReply$Desk" "own" "[I", Cond.fieldLink RX1 15 "GloveReply$Desk" "dear" "[I", Cond.fieldLink RX1 18 "GloveReply$Desk" "worth" "[I", Cond.fieldLink RX1 21 "GloveReply$Desk" "room" "[I", Cond.fieldLink RX1 24 "GloveReply$Desk" "kind" "[I", Cond.fieldLink RX1 27 "GloveReply$Desk" "told" "[I", Cond.fieldLink RX1 30 "GloveReply$Desk" "personCount" "I", Cond.fieldLink RX1 34 "GloveReply$Desk" "gloveCount" "I", Cond.methodLink RX6 25 yX2_init, Cond.instanceMethod yX2_init, Cond.code yX2_init cX2_init 2 none, Cond.methodLink RX2 3 objectInit, Cond.fieldLink RX2 9 "GloveReply$Moment" "kept" "[I", Cond.fieldLink RX2 15 "GloveReply$Moment" "wearer" "[I", Cond.fieldLink RX2 18 "GloveReply$Moment" "date" "I", Cond.fieldLink RX2 22 "GloveReply$Moment" "taken" "Z", Cond.methodLink RX6 35 yX0_init, Cond.instanceMethod yX0_init, Cond.code yX0_init cX0_init 2 none, Cond.methodLink RX0 3 objectInit, Cond.classLink RX0 9 RX2]
def wsL_law_r4 : List Cond := [Cond.fieldLink RX0 11 "GloveReply$Acts" "ring" "[LGloveReply$Moment;", Cond.fieldLink RX0 18 "GloveReply$Acts" "oldest" "I", Cond.fieldLink RX0 22 "GloveReply$Acts" "count" "I", Cond.methodLink RX0 17 yX2_init, Cond.methodLink RX6 42 yX3_init, Cond.instanceMethod yX3_init, Cond.code yX3_init cX3_init 1 none, Cond.methodLink RX3 3 objectInit, Cond.fieldLink RX3 9 "GloveReply$Sightings" "gloves" "[I", Cond.fieldLink RX3 15 "GloveReply$Sightings" "people" "[I", Cond.fieldLink RX3 18 "GloveReply$Sightings" "doings" "[I", Cond.fieldLink RX3 21 "GloveReply$Sightings" "count" "I", Cond.methodLink RX6 49 yX4_init, Cond.instanceMethod yX4_init, Cond.code yX4_init cX4_init 1 none, Cond.methodLink RX4 3 objectInit, Cond.fieldLink RX4 9 "GloveReply$Tally" "count" "I", Cond.fieldLink RX4 15 "GloveReply$Tally" "first" "I", Cond.methodLink RL 12 yX7_init, Cond.instanceMethod yX7_init, Cond.code yX7_init cX7_init 1 none, Cond.methodLink RX7 1 objectInit, Cond.fieldLink RX7 7 "GloveReplyModel" "text" "[I", Cond.fieldLink RX7 13 "GloveReplyModel" "person" "[I"]
def wsL_law_r5 : List Cond := [Cond.fieldLink RX7 16 "GloveReplyModel" "glove" "[I", Cond.fieldLink RX7 19 "GloveReplyModel" "readPerson" "[I", Cond.fieldLink RX7 22 "GloveReplyModel" "readGlove" "[I", Cond.fieldLink RX7 25 "GloveReplyModel" "page" "[I", Cond.fieldLink RX7 28 "GloveReplyModel" "trial" "[I", Cond.fieldLink RX7 31 "GloveReplyModel" "book" "[I", Cond.fieldLink RX7 34 "GloveReplyModel" "kept" "[I", Cond.arrayClass .boolean, Cond.fieldLink RX7 37 "GloveReplyModel" "isKept" "[Z", Cond.fieldLink RX7 41 "GloveReplyModel" "seenGlove" "[I", Cond.fieldLink RX7 44 "GloveReplyModel" "seenPerson" "[I", Cond.fieldLink RX7 47 "GloveReplyModel" "seenDoing" "[I", Cond.methodLink RL 13 yX6_write, Cond.instanceMethod yX6_write, Cond.selects RX6 yX6_write yX6_write, Cond.code yX6_write cX6_write 2 (some .int), Cond.methodLink RX6 62 yX6_within, Cond.static yX6_within, Cond.code yX6_within cX6_within 3 (some .boolean), Cond.methodLink RX6 66 yX5_size, Cond.instanceMethod yX5_size, Cond.selects RX5 yX5_size yX5_size, Cond.code yX5_size cX5_size 1 (some .int), Cond.methodLink RX6 70 yX5_add]
def wsL_law_r6 : List Cond := [Cond.instanceMethod yX5_add, Cond.selects RX5 yX5_add yX5_add, Cond.code yX5_add cX5_add 2 none, Cond.static yX6_put, Cond.code yX6_put cX6_put 3 none, Cond.methodLink RL 17 yX7_write, Cond.instanceMethod yX7_write, Cond.selects RX7 yX7_write yX7_write, Cond.code yX7_write cX7_write 2 (some .int), Cond.fieldLink RX7 50 "GloveReplyModel" "thrown" "I", Cond.constantLong RX7 64 (255), Cond.fieldLink RX7 66 "GloveReplyModel" "textSize" "I", Cond.methodLink RX7 57 yX7_in, Cond.static yX7_in, Cond.code yX7_in cX7_in 6 (some .boolean), Cond.methodLink RL 18 yX6_wipe, Cond.instanceMethod yX6_wipe, Cond.selects RX6 yX6_wipe yX6_wipe, Cond.code yX6_wipe cX6_wipe 2 (some .int), Cond.methodLink RX6 74 yX5_clear, Cond.instanceMethod yX5_clear, Cond.selects RX5 yX5_clear yX5_clear, Cond.code yX5_clear cX5_clear 1 none, Cond.methodLink RL 22 yX7_wipe]
def wsL_law_r7 : List Cond := [Cond.instanceMethod yX7_wipe, Cond.selects RX7 yX7_wipe yX7_wipe, Cond.code yX7_wipe cX7_wipe 2 (some .int), Cond.methodLink RL 23 yX6_fault, Cond.instanceMethod yX6_fault, Cond.selects RX6 yX6_fault yX6_fault, Cond.code yX6_fault cX6_fault 1 (some .int), Cond.methodLink RX6 77 yX5_firstFault, Cond.instanceMethod yX5_firstFault, Cond.selects RX5 yX5_firstFault yX5_firstFault, Cond.code yX5_firstFault cX5_firstFault 2 (some .int), Cond.methodLink RX5 23 yX5_fits, Cond.instanceMethod yX5_fits, Cond.selects RX5 yX5_fits yX5_fits, Cond.code yX5_fits cX5_fits 7 (some .boolean), Cond.fieldLink RX5 42 "GloveReply$Text" "PERSON_LEAST" "[I", Cond.fieldLink RX5 45 "GloveReply$Text" "GLOVE_LEAST" "[I", Cond.fieldLink RX5 48 "GloveReply$Text" "PERSON_MOST" "[I", Cond.fieldLink RX5 51 "GloveReply$Text" "GLOVE_MOST" "[I", Cond.static yX6_at, Cond.code yX6_at cX6_at 2 (some .int), Cond.methodLink RX5 35 yX5_partsAhead, Cond.instanceMethod yX5_partsAhead, Cond.selects RX5 yX5_partsAhead yX5_partsAhead]
def wsL_law_r8 : List Cond := [Cond.code yX5_partsAhead cX5_partsAhead 5 (some .int), Cond.methodLink RX5 39 yX5_isPerson, Cond.instanceMethod yX5_isPerson, Cond.selects RX5 yX5_isPerson yX5_isPerson, Cond.code yX5_isPerson cX5_isPerson 2 (some .boolean), Cond.methodLink RX5 54 yX5_figureAt, Cond.instanceMethod yX5_figureAt, Cond.selects RX5 yX5_figureAt yX5_figureAt, Cond.code yX5_figureAt cX5_figureAt 2 (some .int), Cond.methodLink RX5 27 yX5_endsAPart, Cond.instanceMethod yX5_endsAPart, Cond.selects RX5 yX5_endsAPart yX5_endsAPart, Cond.code yX5_endsAPart cX5_endsAPart 1 (some .boolean), Cond.methodLink RL 26 yX7_fault, Cond.instanceMethod yX7_fault, Cond.selects RX7 yX7_fault yX7_fault, Cond.code yX7_fault cX7_fault 1 (some .int), Cond.methodLink RX7 90 yX7_readDesk, Cond.instanceMethod yX7_readDesk, Cond.selects RX7 yX7_readDesk yX7_readDesk, Cond.code yX7_readDesk cX7_readDesk 1 (some .int), Cond.fieldLink RX7 69 "GloveReplyModel" "place" "I", Cond.fieldLink RX7 76 "GloveReplyModel" "readPeople" "I", Cond.fieldLink RX7 79 "GloveReplyModel" "readGloves" "I"]
def wsL_law_r9 : List Cond := [Cond.methodLink RX7 87 yX7_readPart, Cond.instanceMethod yX7_readPart, Cond.selects RX7 yX7_readPart yX7_readPart, Cond.code yX7_readPart cX7_readPart 2 (some .boolean), Cond.methodLink RX7 82 yX7_readPerson, Cond.instanceMethod yX7_readPerson, Cond.selects RX7 yX7_readPerson yX7_readPerson, Cond.code yX7_readPerson cX7_readPerson 3 (some .boolean), Cond.methodLink RX7 72 yX7_figure, Cond.instanceMethod yX7_figure, Cond.selects RX7 yX7_figure yX7_figure, Cond.code yX7_figure cX7_figure 3 (some .int), Cond.methodLink RX7 85 yX7_readGlove, Cond.instanceMethod yX7_readGlove, Cond.selects RX7 yX7_readGlove yX7_readGlove, Cond.code yX7_readGlove cX7_readGlove 3 (some .boolean), Cond.methodLink RL 27 yX6_desk, Cond.instanceMethod yX6_desk, Cond.selects RX6 yX6_desk yX6_desk, Cond.code yX6_desk cX6_desk 1 (some .int), Cond.methodLink RX6 80 yX1_read, Cond.instanceMethod yX1_read, Cond.selects RX1 yX1_read yX1_read, Cond.code yX1_read cX1_read 3 none]
def wsL_law_r10 : List Cond := [Cond.methodLink RX1 37 yX5_size, Cond.methodLink RX1 43 yX5_isPerson, Cond.methodLink RX1 47 yX1_addPerson, Cond.instanceMethod yX1_addPerson, Cond.selects RX1 yX1_addPerson yX1_addPerson, Cond.code yX1_addPerson cX1_addPerson 3 none, Cond.methodLink RX1 54 yX5_figureAt, Cond.methodLink RX1 51 yX1_addGlove, Cond.instanceMethod yX1_addGlove, Cond.selects RX1 yX1_addGlove yX1_addGlove, Cond.code yX1_addGlove cX1_addGlove 3 none, Cond.methodLink RX6 84 yX2_start, Cond.instanceMethod yX2_start, Cond.selects RX2 yX2_start yX2_start, Cond.code yX2_start cX2_start 3 none, Cond.methodLink RX2 26 yX1_toldOf, Cond.instanceMethod yX1_toldOf, Cond.selects RX1 yX1_toldOf yX1_toldOf, Cond.code yX1_toldOf cX1_toldOf 2 (some .int), Cond.methodLink RX1 66 yX1_hasGlove, Cond.instanceMethod yX1_hasGlove, Cond.selects RX1 yX1_hasGlove yX1_hasGlove, Cond.code yX1_hasGlove cX1_hasGlove 2 (some .boolean), Cond.methodLink RX6 88 yX0_clear]
def wsL_law_r11 : List Cond := [Cond.instanceMethod yX0_clear, Cond.selects RX0 yX0_clear yX0_clear, Cond.code yX0_clear cX0_clear 1 none, Cond.methodLink RX6 89 yX6_forgetSlots, Cond.instanceMethod yX6_forgetSlots, Cond.selects RX6 yX6_forgetSlots yX6_forgetSlots, Cond.code yX6_forgetSlots cX6_forgetSlots 3 none, Cond.methodLink RX6 249 yX2_release, Cond.instanceMethod yX2_release, Cond.selects RX2 yX2_release yX2_release, Cond.code yX2_release cX2_release 1 none, Cond.methodLink RX6 92 yX1_people, Cond.instanceMethod yX1_people, Cond.selects RX1 yX1_people yX1_people, Cond.code yX1_people cX1_people 1 (some .int), Cond.methodLink RX6 95 yX1_gloves, Cond.instanceMethod yX1_gloves, Cond.selects RX1 yX1_gloves yX1_gloves, Cond.code yX1_gloves cX1_gloves 1 (some .int), Cond.methodLink RL 30 yX7_desk, Cond.instanceMethod yX7_desk, Cond.selects RX7 yX7_desk yX7_desk, Cond.code yX7_desk cX7_desk 3 (some .int), Cond.fieldLink RX7 54 "GloveReplyModel" "people" "I"]
def wsL_law_r12 : List Cond := [Cond.fieldLink RX7 61 "GloveReplyModel" "gloves" "I", Cond.fieldLink RX7 94 "GloveReplyModel" "acts" "I", Cond.methodLink RL 31 yX6_about, Cond.instanceMethod yX6_about, Cond.selects RX6 yX6_about yX6_about, Cond.code yX6_about cX6_about 2 (some .int), Cond.methodLink RX6 98 yX2_today, Cond.instanceMethod yX2_today, Cond.selects RX2 yX2_today yX2_today, Cond.code yX2_today cX2_today 1 (some .int), Cond.methodLink RX6 101 yX2_wornBits, Cond.instanceMethod yX2_wornBits, Cond.selects RX2 yX2_wornBits yX2_wornBits, Cond.code yX2_wornBits cX2_wornBits 3 (some .int), Cond.methodLink RX2 47 yX2_isWorn, Cond.instanceMethod yX2_isWorn, Cond.selects RX2 yX2_isWorn yX2_isWorn, Cond.code yX2_isWorn cX2_isWorn 2 (some .boolean), Cond.methodLink RX2 44 yX2_wearerOf, Cond.instanceMethod yX2_wearerOf, Cond.selects RX2 yX2_wearerOf yX2_wearerOf, Cond.code yX2_wearerOf cX2_wearerOf 2 (some .int), Cond.methodLink RX6 104 yX0_size, Cond.instanceMethod yX0_size]
def wsL_law_r13 : List Cond := [Cond.selects RX0 yX0_size yX0_size, Cond.code yX0_size cX0_size 1 (some .int), Cond.methodLink RX6 105 yX3_size, Cond.instanceMethod yX3_size, Cond.selects RX3 yX3_size yX3_size, Cond.code yX3_size cX3_size 1 (some .int), Cond.methodLink RL 34 yX7_about, Cond.instanceMethod yX7_about, Cond.selects RX7 yX7_about yX7_about, Cond.code yX7_about cX7_about 4 (some .int), Cond.fieldLink RX7 113 "GloveReplyModel" "seen" "I", Cond.methodLink RX7 109 yX7_isWorn, Cond.instanceMethod yX7_isWorn, Cond.selects RX7 yX7_isWorn yX7_isWorn, Cond.code yX7_isWorn cX7_isWorn 3 (some .boolean), Cond.methodLink RL 35 yX6_person, Cond.instanceMethod yX6_person, Cond.selects RX6 yX6_person yX6_person, Cond.code yX6_person cX6_person 3 (some .int), Cond.methodLink RX6 106 yX1_hasPerson, Cond.instanceMethod yX1_hasPerson, Cond.selects RX1 yX1_hasPerson yX1_hasPerson, Cond.code yX1_hasPerson cX1_hasPerson 2 (some .boolean), Cond.methodLink RX6 110 yX1_ownOf]
def wsL_law_r14 : List Cond := [Cond.instanceMethod yX1_ownOf, Cond.selects RX1 yX1_ownOf yX1_ownOf, Cond.code yX1_ownOf cX1_ownOf 2 (some .int), Cond.methodLink RX6 114 yX1_dearTo, Cond.instanceMethod yX1_dearTo, Cond.selects RX1 yX1_dearTo yX1_dearTo, Cond.code yX1_dearTo cX1_dearTo 2 (some .int), Cond.methodLink RX6 117 yX1_worthTo, Cond.instanceMethod yX1_worthTo, Cond.selects RX1 yX1_worthTo yX1_worthTo, Cond.code yX1_worthTo cX1_worthTo 2 (some .int), Cond.methodLink RX6 120 yX2_gloveOn, Cond.instanceMethod yX2_gloveOn, Cond.selects RX2 yX2_gloveOn yX2_gloveOn, Cond.code yX2_gloveOn cX2_gloveOn 3 (some .int), Cond.methodLink RL 39 yX7_person, Cond.instanceMethod yX7_person, Cond.selects RX7 yX7_person yX7_person, Cond.code yX7_person cX7_person 3 (some .int), Cond.constantLong RX7 120 (2), Cond.methodLink RX7 116 yX7_noPerson, Cond.instanceMethod yX7_noPerson, Cond.selects RX7 yX7_noPerson yX7_noPerson, Cond.code yX7_noPerson cX7_noPerson 2 (some .boolean)]
def wsL_law_r15 : List Cond := [Cond.methodLink RX7 122 yX7_wears, Cond.instanceMethod yX7_wears, Cond.selects RX7 yX7_wears yX7_wears, Cond.code yX7_wears cX7_wears 5 (some .int), Cond.methodLink RL 40 yX6_glove, Cond.instanceMethod yX6_glove, Cond.selects RX6 yX6_glove yX6_glove, Cond.code yX6_glove cX6_glove 3 (some .int), Cond.methodLink RX6 123 yX1_hasGlove, Cond.methodLink RX6 126 yX1_roomOf, Cond.instanceMethod yX1_roomOf, Cond.selects RX1 yX1_roomOf yX1_roomOf, Cond.code yX1_roomOf cX1_roomOf 2 (some .int), Cond.methodLink RX6 129 yX1_kindOf, Cond.instanceMethod yX1_kindOf, Cond.selects RX1 yX1_kindOf yX1_kindOf, Cond.code yX1_kindOf cX1_kindOf 2 (some .int), Cond.methodLink RX6 132 yX2_keptBy, Cond.instanceMethod yX2_keptBy, Cond.selects RX2 yX2_keptBy yX2_keptBy, Cond.code yX2_keptBy cX2_keptBy 2 (some .int), Cond.methodLink RX6 135 yX6_figuresIn, Cond.static yX6_figuresIn, Cond.code yX6_figuresIn cX6_figuresIn 3 (some .int)]
def wsL_law_r16 : List Cond := [Cond.methodLink RX6 138 yX2_wearerOf, Cond.methodLink RL 43 yX7_glove, Cond.instanceMethod yX7_glove, Cond.selects RX7 yX7_glove yX7_glove, Cond.code yX7_glove cX7_glove 5 (some .int), Cond.methodLink RX7 125 yX7_noGlove, Cond.instanceMethod yX7_noGlove, Cond.selects RX7 yX7_noGlove yX7_noGlove, Cond.code yX7_noGlove cX7_noGlove 2 (some .boolean), Cond.methodLink RL 44 yX6_wear, Cond.instanceMethod yX6_wear, Cond.selects RX6 yX6_wear yX6_wear, Cond.code yX6_wear cX6_wear 3 (some .int), Cond.methodLink RX6 141 yX2_isWorn, Cond.methodLink RX6 144 yX0_add, Cond.instanceMethod yX0_add, Cond.selects RX0 yX0_add yX0_add, Cond.code yX0_add cX0_add 3 none, Cond.methodLink RX0 25 yX0_placeAt, Cond.instanceMethod yX0_placeAt, Cond.selects RX0 yX0_placeAt yX0_placeAt, Cond.code yX0_placeAt cX0_placeAt 3 (some (.object "GloveReply$Moment")), Cond.methodLink RX0 29 yX2_copy, Cond.instanceMethod yX2_copy]
def wsL_law_r17 : List Cond := [Cond.selects RX2 yX2_copy yX2_copy, Cond.code yX2_copy cX2_copy 2 none, Cond.static yX6_copyRow, Cond.code yX6_copyRow cX6_copyRow 3 none, Cond.methodLink RX6 147 yX2_putOn, Cond.instanceMethod yX2_putOn, Cond.selects RX2 yX2_putOn yX2_putOn, Cond.code yX2_putOn cX2_putOn 3 none, Cond.methodLink RX6 151 yX1_reply, Cond.instanceMethod yX1_reply, Cond.selects RX1 yX1_reply yX1_reply, Cond.code yX1_reply cX1_reply 5 (some .int), Cond.static yX6_lastOf, Cond.code yX6_lastOf cX6_lastOf 1 (some .int), Cond.methodLink RX1 75 yX1_kindOf, Cond.static yX6_firstOf, Cond.code yX6_firstOf cX6_firstOf 1 (some .int), Cond.methodLink RX1 69 yX1_ownOf, Cond.methodLink RL 47 yX7_wear, Cond.instanceMethod yX7_wear, Cond.selects RX7 yX7_wear yX7_wear, Cond.code yX7_wear cX7_wear 3 (some .int), Cond.methodLink RX7 128 yX7_note, Cond.instanceMethod yX7_note]
def wsL_law_r18 : List Cond := [Cond.selects RX7 yX7_note yX7_note, Cond.code yX7_note cX7_note 2 none, Cond.methodLink RX7 105 yX7_doesOn, Cond.instanceMethod yX7_doesOn, Cond.selects RX7 yX7_doesOn yX7_doesOn, Cond.code yX7_doesOn cX7_doesOn 5 (some .int), Cond.methodLink RX7 97 yX7_lastOf, Cond.static yX7_lastOf, Cond.code yX7_lastOf cX7_lastOf 3 (some .int), Cond.methodLink RL 48 yX6_takeOff, Cond.instanceMethod yX6_takeOff, Cond.selects RX6 yX6_takeOff yX6_takeOff, Cond.code yX6_takeOff cX6_takeOff 2 (some .int), Cond.methodLink RX6 155 yX6_layDown, Cond.instanceMethod yX6_layDown, Cond.selects RX6 yX6_layDown yX6_layDown, Cond.code yX6_layDown cX6_layDown 3 none, Cond.methodLink RX6 252 yX1_afterHand, Cond.instanceMethod yX1_afterHand, Cond.selects RX1 yX1_afterHand yX1_afterHand, Cond.code yX1_afterHand cX1_afterHand 4 (some .int), Cond.methodLink RX1 81 yX1_roomOf, Cond.static yX6_withBehind, Cond.code yX6_withBehind cX6_withBehind 3 (some .int)]
def wsL_law_r19 : List Cond := [Cond.methodLink RX6 161 yX2_setKept, Cond.instanceMethod yX2_setKept, Cond.selects RX2 yX2_setKept yX2_setKept, Cond.code yX2_setKept cX2_setKept 3 none, Cond.methodLink RL 51 yX7_takeOff, Cond.instanceMethod yX7_takeOff, Cond.selects RX7 yX7_takeOff yX7_takeOff, Cond.code yX7_takeOff cX7_takeOff 2 (some .int), Cond.methodLink RX7 131 yX7_goOff, Cond.instanceMethod yX7_goOff, Cond.selects RX7 yX7_goOff yX7_goOff, Cond.code yX7_goOff cX7_goOff 3 none, Cond.methodLink RX7 101 yX7_keepDoing, Cond.instanceMethod yX7_keepDoing, Cond.selects RX7 yX7_keepDoing yX7_keepDoing, Cond.code yX7_keepDoing cX7_keepDoing 5 none, Cond.methodLink RL 52 yX6_wash, Cond.instanceMethod yX6_wash, Cond.selects RX6 yX6_wash yX6_wash, Cond.code yX6_wash cX6_wash 3 (some .int), Cond.methodLink RX6 158 yX6_withoutLast, Cond.static yX6_withoutLast, Cond.code yX6_withoutLast cX6_withoutLast 1 (some .int), Cond.methodLink RX6 164 yX6_lastOf]
def wsL_law_r20 : List Cond := [Cond.methodLink RL 55 yX7_wash, Cond.instanceMethod yX7_wash, Cond.selects RX7 yX7_wash yX7_wash, Cond.code yX7_wash cX7_wash 3 (some .int), Cond.methodLink RL 56 yX6_day, Cond.instanceMethod yX6_day, Cond.selects RX6 yX6_day yX6_day, Cond.code yX6_day cX6_day 3 (some .int), Cond.methodLink RX6 167 yX2_nextDay, Cond.instanceMethod yX2_nextDay, Cond.selects RX2 yX2_nextDay yX2_nextDay, Cond.code yX2_nextDay cX2_nextDay 1 none, Cond.methodLink RL 59 yX7_day, Cond.instanceMethod yX7_day, Cond.selects RX7 yX7_day yX7_day, Cond.code yX7_day cX7_day 3 (some .int), Cond.methodLink RL 60 yX6_undo, Cond.instanceMethod yX6_undo, Cond.selects RX6 yX6_undo yX6_undo, Cond.code yX6_undo cX6_undo 1 (some .int), Cond.methodLink RX6 170 yX0_giveBackLast, Cond.instanceMethod yX0_giveBackLast, Cond.selects RX0 yX0_giveBackLast yX0_giveBackLast, Cond.code yX0_giveBackLast cX0_giveBackLast 3 none]
def wsL_law_r21 : List Cond := [Cond.methodLink RL 63 yX7_undo, Cond.instanceMethod yX7_undo, Cond.selects RX7 yX7_undo yX7_undo, Cond.code yX7_undo cX7_undo 2 (some .int), Cond.methodLink RL 64 yX6_does, Cond.instanceMethod yX6_does, Cond.selects RX6 yX6_does yX6_does, Cond.code yX6_does cX6_does 4 (some .int), Cond.methodLink RX6 173 yX6_isRow, Cond.instanceMethod yX6_isRow, Cond.selects RX6 yX6_isRow yX6_isRow, Cond.code yX6_isRow cX6_isRow 5 (some .boolean), Cond.methodLink RX6 177 yX6_replyToRow, Cond.instanceMethod yX6_replyToRow, Cond.selects RX6 yX6_replyToRow yX6_replyToRow, Cond.code yX6_replyToRow cX6_replyToRow 7 (some .int), Cond.methodLink RX6 255 yX6_turned, Cond.static yX6_turned, Cond.code yX6_turned cX6_turned 5 (some .int), Cond.methodLink RL 68 yX7_does, Cond.instanceMethod yX7_does, Cond.selects RX7 yX7_does yX7_does, Cond.code yX7_does cX7_does 4 (some .int), Cond.methodLink RX7 146 yX7_noRow]
def wsL_law_r22 : List Cond := [Cond.instanceMethod yX7_noRow, Cond.selects RX7 yX7_noRow yX7_noRow, Cond.code yX7_noRow cX7_noRow 5 (some .boolean), Cond.constantLong RX7 144 (4), Cond.methodLink RX7 138 yX7_power, Cond.static yX7_power, Cond.code yX7_power cX7_power 4 (some .int), Cond.methodLink RX7 150 yX7_doesBy, Cond.instanceMethod yX7_doesBy, Cond.selects RX7 yX7_doesBy yX7_doesBy, Cond.code yX7_doesBy cX7_doesBy 6 (some .int), Cond.methodLink RX7 135 yX7_begin, Cond.instanceMethod yX7_begin, Cond.selects RX7 yX7_begin yX7_begin, Cond.code yX7_begin cX7_begin 2 none, Cond.methodLink RX7 141 yX7_goHand, Cond.instanceMethod yX7_goHand, Cond.selects RX7 yX7_goHand yX7_goHand, Cond.code yX7_goHand cX7_goHand 5 (some .int), Cond.methodLink RL 69 yX6_comes, Cond.instanceMethod yX6_comes, Cond.selects RX6 yX6_comes yX6_comes, Cond.code yX6_comes cX6_comes 6 (some .int), Cond.methodLink RX6 180 yX6_isChoice]
def wsL_law_r23 : List Cond := [Cond.static yX6_isChoice, Cond.code yX6_isChoice cX6_isChoice 1 (some .boolean), Cond.methodLink RX6 183 yX6_firstRow, Cond.static yX6_firstRow, Cond.code yX6_firstRow cX6_firstRow 10 (some .int), Cond.methodLink RL 72 yX7_comes, Cond.instanceMethod yX7_comes, Cond.selects RX7 yX7_comes yX7_comes, Cond.code yX7_comes cX7_comes 4 (some .int), Cond.constantLong RX7 160 (7), Cond.fieldLink RX7 154 "GloveReplyModel" "comesMany" "I", Cond.fieldLink RX7 157 "GloveReplyModel" "comesRow" "I", Cond.methodLink RX7 162 yX7_findComes, Cond.instanceMethod yX7_findComes, Cond.selects RX7 yX7_findComes yX7_findComes, Cond.code yX7_findComes cX7_findComes 5 none, Cond.methodLink RL 73 yX6_rounds, Cond.instanceMethod yX6_rounds, Cond.selects RX6 yX6_rounds yX6_rounds, Cond.code yX6_rounds cX6_rounds 3 (some .int), Cond.methodLink RX6 187 yX4_start, Cond.instanceMethod yX4_start, Cond.selects RX4 yX4_start yX4_start, Cond.code yX4_start cX4_start 1 none]
def wsL_law_r24 : List Cond := [Cond.methodLink RX6 189 yX6_tallyRounds, Cond.static yX6_tallyRounds, Cond.code yX6_tallyRounds cX6_tallyRounds 10 none, Cond.methodLink RX6 221 yX4_add, Cond.instanceMethod yX4_add, Cond.selects RX4 yX4_add yX4_add, Cond.code yX4_add cX4_add 2 none, Cond.methodLink RX6 258 yX6_hasFigure, Cond.static yX6_hasFigure, Cond.code yX6_hasFigure cX6_hasFigure 3 (some .boolean), Cond.methodLink RX6 193 yX4_told, Cond.instanceMethod yX4_told, Cond.selects RX4 yX4_told yX4_told, Cond.code yX4_told cX4_told 2 (some .int), Cond.methodLink RL 76 yX7_rounds, Cond.instanceMethod yX7_rounds, Cond.selects RX7 yX7_rounds yX7_rounds, Cond.code yX7_rounds cX7_rounds 3 (some .int), Cond.fieldLink RX7 166 "GloveReplyModel" "roundMany" "I", Cond.fieldLink RX7 169 "GloveReplyModel" "roundFirst" "I", Cond.methodLink RX7 175 yX7_findRounds, Cond.instanceMethod yX7_findRounds, Cond.selects RX7 yX7_findRounds yX7_findRounds, Cond.code yX7_findRounds cX7_findRounds 3 none]
def wsL_law_r25 : List Cond := [Cond.methodLink RX7 172 yX7_isRound, Cond.instanceMethod yX7_isRound, Cond.selects RX7 yX7_isRound yX7_isRound, Cond.code yX7_isRound cX7_isRound 9 (some .boolean), Cond.methodLink RL 77 yX6_givesAway, Cond.instanceMethod yX6_givesAway, Cond.selects RX6 yX6_givesAway yX6_givesAway, Cond.code yX6_givesAway cX6_givesAway 5 (some .int), Cond.methodLink RX6 196 yX1_isSomeonesOwn, Cond.instanceMethod yX1_isSomeonesOwn, Cond.selects RX1 yX1_isSomeonesOwn yX1_isSomeonesOwn, Cond.code yX1_isSomeonesOwn cX1_isSomeonesOwn 3 (some .boolean), Cond.methodLink RL 80 yX7_givesAway, Cond.instanceMethod yX7_givesAway, Cond.selects RX7 yX7_givesAway yX7_givesAway, Cond.code yX7_givesAway cX7_givesAway 7 (some .int), Cond.methodLink RL 81 yX6_leftBy, Cond.instanceMethod yX6_leftBy, Cond.selects RX6 yX6_leftBy yX6_leftBy, Cond.code yX6_leftBy cX6_leftBy 3 (some .int), Cond.methodLink RX6 199 yX6_lastAfterWashes, Cond.instanceMethod yX6_lastAfterWashes, Cond.selects RX6 yX6_lastAfterWashes yX6_lastAfterWashes, Cond.code yX6_lastAfterWashes cX6_lastAfterWashes 5 (some .int)]
def wsL_law_r26 : List Cond := [Cond.methodLink RL 84 yX7_leftBy, Cond.instanceMethod yX7_leftBy, Cond.selects RX7 yX7_leftBy yX7_leftBy, Cond.code yX7_leftBy cX7_leftBy 3 (some .int), Cond.constantLong RX7 179 (3), Cond.methodLink RX7 181 yX7_leftOf, Cond.instanceMethod yX7_leftOf, Cond.selects RX7 yX7_leftOf yX7_leftOf, Cond.code yX7_leftOf cX7_leftOf 4 (some .int), Cond.methodLink RL 85 yX6_washes, Cond.instanceMethod yX6_washes, Cond.selects RX6 yX6_washes yX6_washes, Cond.code yX6_washes cX6_washes 4 (some .int), Cond.methodLink RL 88 yX7_washes, Cond.instanceMethod yX7_washes, Cond.selects RX7 yX7_washes yX7_washes, Cond.code yX7_washes cX7_washes 4 (some .int), Cond.methodLink RL 89 yX6_both, Cond.instanceMethod yX6_both, Cond.selects RX6 yX6_both yX6_both, Cond.code yX6_both cX6_both 3 (some .int), Cond.methodLink RX6 203 yX6_secretOf, Cond.instanceMethod yX6_secretOf, Cond.selects RX6 yX6_secretOf yX6_secretOf]
def wsL_law_r27 : List Cond := [Cond.code yX6_secretOf cX6_secretOf 3 (some .int), Cond.methodLink RL 92 yX7_both, Cond.instanceMethod yX7_both, Cond.selects RX7 yX7_both yX7_both, Cond.code yX7_both cX7_both 3 (some .int), Cond.methodLink RL 93 yX6_either, Cond.instanceMethod yX6_either, Cond.selects RX6 yX6_either yX6_either, Cond.code yX6_either cX6_either 5 (some .int), Cond.methodLink RL 96 yX7_either, Cond.instanceMethod yX7_either, Cond.selects RX7 yX7_either yX7_either, Cond.code yX7_either cX7_either 5 (some .int), Cond.methodLink RL 97 yX6_see, Cond.instanceMethod yX6_see, Cond.selects RX6 yX6_see yX6_see, Cond.code yX6_see cX6_see 4 (some .int), Cond.methodLink RX6 206 yX3_add, Cond.instanceMethod yX3_add, Cond.selects RX3 yX3_add yX3_add, Cond.code yX3_add cX3_add 4 none, Cond.methodLink RL 100 yX7_see, Cond.instanceMethod yX7_see, Cond.selects RX7 yX7_see yX7_see]
def wsL_law_r28 : List Cond := [Cond.code yX7_see cX7_see 4 (some .int), Cond.methodLink RL 101 yX6_unsee, Cond.instanceMethod yX6_unsee, Cond.selects RX6 yX6_unsee yX6_unsee, Cond.code yX6_unsee cX6_unsee 2 (some .int), Cond.methodLink RX6 209 yX3_clear, Cond.instanceMethod yX3_clear, Cond.selects RX3 yX3_clear yX3_clear, Cond.code yX3_clear cX3_clear 1 none, Cond.methodLink RL 104 yX7_unsee, Cond.instanceMethod yX7_unsee, Cond.selects RX7 yX7_unsee yX7_unsee, Cond.code yX7_unsee cX7_unsee 2 (some .int), Cond.methodLink RL 105 yX6_wore, Cond.instanceMethod yX6_wore, Cond.selects RX6 yX6_wore yX6_wore, Cond.code yX6_wore cX6_wore 3 (some .int), Cond.methodLink RX6 210 yX6_tallyWearers, Cond.static yX6_tallyWearers, Cond.code yX6_tallyWearers cX6_tallyWearers 12 none, Cond.methodLink RX6 261 yX3_nextOf, Cond.instanceMethod yX3_nextOf, Cond.selects RX3 yX3_nextOf yX3_nextOf, Cond.code yX3_nextOf cX3_nextOf 5 (some .int)]
def wsL_law_r29 : List Cond := [Cond.methodLink RX3 33 yX3_personAt, Cond.instanceMethod yX3_personAt, Cond.selects RX3 yX3_personAt yX3_personAt, Cond.code yX3_personAt cX3_personAt 2 (some .int), Cond.methodLink RX3 37 yX1_hasPerson, Cond.methodLink RX6 265 yX3_personAt, Cond.methodLink RX6 268 yX3_doingAt, Cond.instanceMethod yX3_doingAt, Cond.selects RX3 yX3_doingAt yX3_doingAt, Cond.code yX3_doingAt cX3_doingAt 2 (some .int), Cond.methodLink RL 108 yX7_wore, Cond.instanceMethod yX7_wore, Cond.selects RX7 yX7_wore yX7_wore, Cond.code yX7_wore cX7_wore 3 (some .int), Cond.fieldLink RX7 187 "GloveReplyModel" "woreMany" "I", Cond.fieldLink RX7 190 "GloveReplyModel" "woreFirst" "I", Cond.methodLink RX7 193 yX7_findWore, Cond.instanceMethod yX7_findWore, Cond.selects RX7 yX7_findWore yX7_findWore, Cond.code yX7_findWore cX7_findWore 9 none, Cond.methodLink RX7 184 yX7_looks, Cond.instanceMethod yX7_looks, Cond.selects RX7 yX7_looks yX7_looks, Cond.code yX7_looks cX7_looks 3 (some .boolean)]
def wsL_law_r30 : List Cond := [Cond.methodLink RL 109 yX6_bids, Cond.instanceMethod yX6_bids, Cond.selects RX6 yX6_bids yX6_bids, Cond.code yX6_bids cX6_bids 9 (some .int), Cond.methodLink RX6 214 yX6_worthOn, Cond.instanceMethod yX6_worthOn, Cond.selects RX6 yX6_worthOn yX6_worthOn, Cond.code yX6_worthOn cX6_worthOn 4 (some .int), Cond.methodLink RX6 217 yX6_isAtRest, Cond.static yX6_isAtRest, Cond.code yX6_isAtRest cX6_isAtRest 7 (some .boolean), Cond.methodLink RX6 271 yX6_gainOfFirst, Cond.static yX6_gainOfFirst, Cond.code yX6_gainOfFirst cX6_gainOfFirst 3 (some .int), Cond.methodLink RX6 274 yX6_gainOfOther, Cond.static yX6_gainOfOther, Cond.code yX6_gainOfOther cX6_gainOfOther 3 (some .int), Cond.methodLink RL 113 yX7_bids, Cond.instanceMethod yX7_bids, Cond.selects RX7 yX7_bids yX7_bids, Cond.code yX7_bids cX7_bids 5 (some .int), Cond.fieldLink RX7 196 "GloveReplyModel" "bidMany" "I", Cond.fieldLink RX7 199 "GloveReplyModel" "bidFirst" "I", Cond.methodLink RX7 205 yX7_findBids]
def wsL_law_r31 : List Cond := [Cond.instanceMethod yX7_findBids, Cond.selects RX7 yX7_findBids yX7_findBids, Cond.code yX7_findBids cX7_findBids 13 none, Cond.methodLink RX7 202 yX7_worthTo, Cond.instanceMethod yX7_worthTo, Cond.selects RX7 yX7_worthTo yX7_worthTo, Cond.code yX7_worthTo cX7_worthTo 3 (some .int), Cond.methodLink RL 114 yX6_lost, Cond.instanceMethod yX6_lost, Cond.selects RX6 yX6_lost yX6_lost, Cond.code yX6_lost cX6_lost 9 (some .int), Cond.methodLink RX6 222 yX6_waysToDo, Cond.static yX6_waysToDo, Cond.code yX6_waysToDo cX6_waysToDo 9 (some .int), Cond.methodLink RX6 225 yX6_partInLeastTerms, Cond.static yX6_partInLeastTerms, Cond.code yX6_partInLeastTerms cX6_partInLeastTerms 5 (some .int), Cond.methodLink RL 118 yX7_lost, Cond.instanceMethod yX7_lost, Cond.selects RX7 yX7_lost yX7_lost, Cond.code yX7_lost cX7_lost 10 (some .int), Cond.methodLink RX7 209 yX7_divisor, Cond.static yX7_divisor, Cond.code yX7_divisor cX7_divisor 5 (some .int)]
def wsL_law_r32 : List Cond := [Cond.methodLink RL 121 yX6_seed, Cond.instanceMethod yX6_seed, Cond.selects RX6 yX6_seed yX6_seed, Cond.code yX6_seed cX6_seed 5 (some .long), Cond.methodLink RL 125 yX7_seed, Cond.instanceMethod yX7_seed, Cond.selects RX7 yX7_seed yX7_seed, Cond.code yX7_seed cX7_seed 5 (some .long), Cond.fieldLink RX7 212 "GloveReplyModel" "seed" "J", Cond.methodLink RL 126 yX6_weeks, Cond.instanceMethod yX6_weeks, Cond.selects RX6 yX6_weeks yX6_weeks, Cond.code yX6_weeks cX6_weeks 5 (some .int), Cond.constantLong RX6 232 (6364136223846793005), Cond.constantLong RX6 234 (1442695040888963407), Cond.constantLong RX6 236 (20), Cond.methodLink RX6 229 yX2_copy, Cond.methodLink RX6 238 yX6_pleasesOnTrial, Cond.instanceMethod yX6_pleasesOnTrial, Cond.selects RX6 yX6_pleasesOnTrial yX6_pleasesOnTrial, Cond.code yX6_pleasesOnTrial cX6_pleasesOnTrial 4 (some .boolean), Cond.methodLink RL 129 yX7_weeks, Cond.instanceMethod yX7_weeks, Cond.selects RX7 yX7_weeks yX7_weeks]
def wsL_law_r33 : List Cond := [Cond.code yX7_weeks cX7_weeks 7 (some .int), Cond.constantLong RX7 216 (30), Cond.constantLong RX7 218 (6364136223846793005), Cond.constantLong RX7 220 (1442695040888963407), Cond.constantLong RX7 222 (20), Cond.methodLink RL 130 yX6_keep, Cond.instanceMethod yX6_keep, Cond.selects RX6 yX6_keep yX6_keep, Cond.code yX6_keep cX6_keep 3 (some .int), Cond.methodLink RX6 241 yX6_slotAt, Cond.instanceMethod yX6_slotAt, Cond.selects RX6 yX6_slotAt yX6_slotAt, Cond.code yX6_slotAt cX6_slotAt 2 (some (.object "GloveReply$Moment")), Cond.methodLink RL 133 yX7_keep, Cond.instanceMethod yX7_keep, Cond.selects RX7 yX7_keep yX7_keep, Cond.code yX7_keep cX7_keep 3 (some .int), Cond.methodLink RL 134 yX6_again, Cond.instanceMethod yX6_again, Cond.selects RX6 yX6_again yX6_again, Cond.code yX6_again cX6_again 3 (some .int), Cond.methodLink RX6 245 yX2_isTaken, Cond.instanceMethod yX2_isTaken, Cond.selects RX2 yX2_isTaken yX2_isTaken]
def wsL_law_r34 : List Cond := [Cond.code yX2_isTaken cX2_isTaken 1 (some .boolean), Cond.methodLink RL 137 yX7_again, Cond.instanceMethod yX7_again, Cond.selects RX7 yX7_again yX7_again, Cond.code yX7_again cX7_again 3 (some .int)]
def wsL_law : List Cond := (wsL_law_r1 ++ (wsL_law_r2 ++ (wsL_law_r3 ++ (wsL_law_r4 ++ (wsL_law_r5 ++ (wsL_law_r6 ++ (wsL_law_r7 ++ (wsL_law_r8 ++ (wsL_law_r9 ++ (wsL_law_r10 ++ (wsL_law_r11 ++ (wsL_law_r12 ++ (wsL_law_r13 ++ (wsL_law_r14 ++ (wsL_law_r15 ++ (wsL_law_r16 ++ (wsL_law_r17 ++ (wsL_law_r18 ++ (wsL_law_r19 ++ (wsL_law_r20 ++ (wsL_law_r21 ++ (wsL_law_r22 ++ (wsL_law_r23 ++ (wsL_law_r24 ++ (wsL_law_r25 ++ (wsL_law_r26 ++ (wsL_law_r27 ++ (wsL_law_r28 ++ (wsL_law_r29 ++ (wsL_law_r30 ++ (wsL_law_r31 ++ (wsL_law_r32 ++ (wsL_law_r33 ++ wsL_law_r34))))))))))))))))))))))))))))))))) ++ wsX60 ++ wsX70 ++ wsX50 ++ wsX10 ++ wsX20 ++ wsX00 ++ wsX30 ++ wsX40 ++ ([] : List Cond)
abbrev vwCl : List vw_C := [(RX0, TX0, 3), (RX1, TX1, 8), (RX2, TX2, 4), (RX3, TX3, 4), (RX4, TX4, 2), (RX5, TX5, 2), (RX6, TX6, 9), (RX7, TX7, 31)]
end
section
set_option maxRecDepth 20000 in
theorem ggX0_init_X2_init : GoodIn wsX0_init wsX2_init := goodIn_r _ [12, 13, 2, 3, 14, 15, 16, 17, 18, 22, 23, 24, 25] (by decide +kernel) (by decide +kernel)
set_option maxRecDepth 20000 in
theorem gX0_init_X2_init : GoodIn wsX0_init (wsX2_init) := ggX0_init_X2_init
theorem dX0_init_0 : decode cX0_init 0 = .ok (.aload_n 0, 1) := by decide +kernel
theorem dX0_init_1 : decode cX0_init 1 = .ok (.invokespecial 3, 3) := by decide +kernel
theorem dX0_init_4 : decode cX0_init 4 = .ok (.aload_n 0, 1) := by decide +kernel
theorem dX0_init_5 : decode cX0_init 5 = .ok (.bipush 14, 2) := by decide +kernel
theorem dX0_init_7 : decode cX0_init 7 = .ok (.anewarray 9, 3) := by decide +kernel
theorem dX0_init_10 : decode cX0_init 10 = .ok (.putfield 11, 3) := by decide +kernel
theorem dX0_init_13 : decode cX0_init 13 = .ok (.iconst 0, 1) := by decide +kernel
theorem dX0_init_14 : decode cX0_init 14 = .ok (.istore_n 1, 1) := by decide +kernel
theorem dX0_init_15 : decode cX0_init 15 = .ok (.iload_n 1, 1) := by decide +kernel
theorem dX0_init_16 : decode cX0_init 16 = .ok (.aload_n 0, 1) := by decide +kernel
theorem dX0_init_17 : decode cX0_init 17 = .ok (.getfield 11, 3) := by decide +kernel
theorem dX0_init_20 : decode cX0_init 20 = .ok (.arraylength, 1) := by decide +kernel
theorem dX0_init_21 : decode cX0_init 21 = .ok (.if_icmp .ge 22, 3) := by decide +kernel
theorem dX0_init_24 : decode cX0_init 24 = .ok (.aload_n 0, 1) := by decide +kernel
theorem dX0_init_25 : decode cX0_init 25 = .ok (.getfield 11, 3) := by decide +kernel
theorem dX0_init_28 : decode cX0_init 28 = .ok (.iload_n 1, 1) := by decide +kernel
theorem dX0_init_29 : decode cX0_init 29 = .ok (.new 9, 3) := by decide +kernel
theorem dX0_init_32 : decode cX0_init 32 = .ok (.dup, 1) := by decide +kernel
theorem dX0_init_33 : decode cX0_init 33 = .ok (.invokespecial 17, 3) := by decide +kernel
theorem dX0_init_36 : decode cX0_init 36 = .ok (.aastore, 1) := by decide +kernel
theorem dX0_init_37 : decode cX0_init 37 = .ok (.iinc 1 1, 3) := by decide +kernel
theorem dX0_init_40 : decode cX0_init 40 = .ok (.goto (-25), 3) := by decide +kernel
theorem dX0_init_43 : decode cX0_init 43 = .ok (.aload_n 0, 1) := by decide +kernel
theorem dX0_init_44 : decode cX0_init 44 = .ok (.iconst 0, 1) := by decide +kernel
theorem dX0_init_45 : decode cX0_init 45 = .ok (.putfield 18, 3) := by decide +kernel
theorem dX0_init_48 : decode cX0_init 48 = .ok (.aload_n 0, 1) := by decide +kernel
theorem dX0_init_49 : decode cX0_init 49 = .ok (.iconst 0, 1) := by decide +kernel
theorem dX0_init_50 : decode cX0_init 50 = .ok (.putfield 22, 3) := by decide +kernel
theorem dX0_init_53 : decode cX0_init 53 = .ok (.return_, 1) := by decide +kernel
theorem dX0_size_0 : decode cX0_size 0 = .ok (.aload_n 0, 1) := by decide +kernel
theorem dX0_size_1 : decode cX0_size 1 = .ok (.getfield 22, 3) := by decide +kernel
theorem dX0_size_4 : decode cX0_size 4 = .ok (.ireturn, 1) := by decide +kernel
theorem dX0_clear_0 : decode cX0_clear 0 = .ok (.aload_n 0, 1) := by decide +kernel
theorem dX0_clear_1 : decode cX0_clear 1 = .ok (.iconst 0, 1) := by decide +kernel
theorem dX0_clear_2 : decode cX0_clear 2 = .ok (.putfield 22, 3) := by decide +kernel
theorem dX0_clear_5 : decode cX0_clear 5 = .ok (.return_, 1) := by decide +kernel
set_option maxRecDepth 20000 in
theorem ggX0_add_X0_placeAt : GoodIn wsX0_add wsX0_placeAt := goodIn_r _ [7, 2, 8, 21, 22, 23] (by decide +kernel) (by decide +kernel)
set_option maxRecDepth 20000 in
theorem gX0_add_X0_placeAt : GoodIn wsX0_add (wsV RX0 25 RX0 yX0_placeAt wsX0_placeAt) := goodIn_app (goodIn_of _ (by decide +kernel)) ggX0_add_X0_placeAt
set_option maxRecDepth 20000 in
theorem ggX0_add_X2_copy : GoodIn wsX0_add wsX2_copy := goodIn_r _ [13, 14, 15, 16, 17, 18, 19, 20, 24, 25, 26, 27] (by decide +kernel) (by decide +kernel)
set_option maxRecDepth 20000 in
theorem gX0_add_X2_copy : GoodIn wsX0_add (wsV RX0 29 RX2 yX2_copy wsX2_copy) := goodIn_app (goodIn_of _ (by decide +kernel)) ggX0_add_X2_copy
theorem dX0_add_0 : decode cX0_add 0 = .ok (.aload_n 0, 1) := by decide +kernel
theorem dX0_add_1 : decode cX0_add 1 = .ok (.aload_n 0, 1) := by decide +kernel
theorem dX0_add_2 : decode cX0_add 2 = .ok (.getfield 22, 3) := by decide +kernel
theorem dX0_add_5 : decode cX0_add 5 = .ok (.invokevirtual 25, 3) := by decide +kernel
theorem dX0_add_8 : decode cX0_add 8 = .ok (.astore_n 2, 1) := by decide +kernel
theorem dX0_add_9 : decode cX0_add 9 = .ok (.aload_n 2, 1) := by decide +kernel
theorem dX0_add_10 : decode cX0_add 10 = .ok (.ifnull 8, 3) := by decide +kernel
theorem dX0_add_13 : decode cX0_add 13 = .ok (.aload_n 2, 1) := by decide +kernel
theorem dX0_add_14 : decode cX0_add 14 = .ok (.aload_n 1, 1) := by decide +kernel
theorem dX0_add_15 : decode cX0_add 15 = .ok (.invokevirtual 29, 3) := by decide +kernel
theorem dX0_add_18 : decode cX0_add 18 = .ok (.aload_n 0, 1) := by decide +kernel
theorem dX0_add_19 : decode cX0_add 19 = .ok (.getfield 22, 3) := by decide +kernel
theorem dX0_add_22 : decode cX0_add 22 = .ok (.bipush 14, 2) := by decide +kernel
theorem dX0_add_24 : decode cX0_add 24 = .ok (.if_icmp .ge 16, 3) := by decide +kernel
theorem dX0_add_27 : decode cX0_add 27 = .ok (.aload_n 0, 1) := by decide +kernel
theorem dX0_add_28 : decode cX0_add 28 = .ok (.dup, 1) := by decide +kernel
theorem dX0_add_29 : decode cX0_add 29 = .ok (.getfield 22, 3) := by decide +kernel
theorem dX0_add_32 : decode cX0_add 32 = .ok (.iconst 1, 1) := by decide +kernel
theorem dX0_add_33 : decode cX0_add 33 = .ok (.iadd, 1) := by decide +kernel
theorem dX0_add_34 : decode cX0_add 34 = .ok (.putfield 22, 3) := by decide +kernel
theorem dX0_add_37 : decode cX0_add 37 = .ok (.goto 16, 3) := by decide +kernel
theorem dX0_add_40 : decode cX0_add 40 = .ok (.aload_n 0, 1) := by decide +kernel
theorem dX0_add_41 : decode cX0_add 41 = .ok (.aload_n 0, 1) := by decide +kernel
theorem dX0_add_42 : decode cX0_add 42 = .ok (.getfield 18, 3) := by decide +kernel
theorem dX0_add_45 : decode cX0_add 45 = .ok (.iconst 1, 1) := by decide +kernel
theorem dX0_add_46 : decode cX0_add 46 = .ok (.iadd, 1) := by decide +kernel
theorem dX0_add_47 : decode cX0_add 47 = .ok (.bipush 14, 2) := by decide +kernel
theorem dX0_add_49 : decode cX0_add 49 = .ok (.irem, 1) := by decide +kernel
theorem dX0_add_50 : decode cX0_add 50 = .ok (.putfield 18, 3) := by decide +kernel
theorem dX0_add_53 : decode cX0_add 53 = .ok (.return_, 1) := by decide +kernel
set_option maxRecDepth 20000 in
theorem ggX0_giveBackLast_X0_placeAt : GoodIn wsX0_giveBackLast wsX0_placeAt := goodIn_r _ [6, 7, 8, 21, 22, 23] (by decide +kernel) (by decide +kernel)
set_option maxRecDepth 20000 in
theorem gX0_giveBackLast_X0_placeAt : GoodIn wsX0_giveBackLast (wsV RX0 25 RX0 yX0_placeAt wsX0_placeAt) := goodIn_app (goodIn_of _ (by decide +kernel)) ggX0_giveBackLast_X0_placeAt
set_option maxRecDepth 20000 in
theorem ggX0_giveBackLast_X2_copy : GoodIn wsX0_giveBackLast wsX2_copy := goodIn_r _ [13, 14, 15, 16, 17, 18, 19, 20, 24, 25, 26, 27] (by decide +kernel) (by decide +kernel)
set_option maxRecDepth 20000 in
theorem gX0_giveBackLast_X2_copy : GoodIn wsX0_giveBackLast (wsV RX0 29 RX2 yX2_copy wsX2_copy) := goodIn_app (goodIn_of _ (by decide +kernel)) ggX0_giveBackLast_X2_copy
theorem dX0_giveBackLast_0 : decode cX0_giveBackLast 0 = .ok (.aload_n 0, 1) := by decide +kernel
theorem dX0_giveBackLast_1 : decode cX0_giveBackLast 1 = .ok (.getfield 22, 3) := by decide +kernel
theorem dX0_giveBackLast_4 : decode cX0_giveBackLast 4 = .ok (.ifCond .le 31, 3) := by decide +kernel
theorem dX0_giveBackLast_7 : decode cX0_giveBackLast 7 = .ok (.aload_n 0, 1) := by decide +kernel
theorem dX0_giveBackLast_8 : decode cX0_giveBackLast 8 = .ok (.dup, 1) := by decide +kernel
theorem dX0_giveBackLast_9 : decode cX0_giveBackLast 9 = .ok (.getfield 22, 3) := by decide +kernel
theorem dX0_giveBackLast_12 : decode cX0_giveBackLast 12 = .ok (.iconst 1, 1) := by decide +kernel
theorem dX0_giveBackLast_13 : decode cX0_giveBackLast 13 = .ok (.isub, 1) := by decide +kernel
theorem dX0_giveBackLast_14 : decode cX0_giveBackLast 14 = .ok (.putfield 22, 3) := by decide +kernel
theorem dX0_giveBackLast_17 : decode cX0_giveBackLast 17 = .ok (.aload_n 0, 1) := by decide +kernel
theorem dX0_giveBackLast_18 : decode cX0_giveBackLast 18 = .ok (.aload_n 0, 1) := by decide +kernel
theorem dX0_giveBackLast_19 : decode cX0_giveBackLast 19 = .ok (.getfield 22, 3) := by decide +kernel
theorem dX0_giveBackLast_22 : decode cX0_giveBackLast 22 = .ok (.invokevirtual 25, 3) := by decide +kernel
theorem dX0_giveBackLast_25 : decode cX0_giveBackLast 25 = .ok (.astore_n 2, 1) := by decide +kernel
theorem dX0_giveBackLast_26 : decode cX0_giveBackLast 26 = .ok (.aload_n 2, 1) := by decide +kernel
theorem dX0_giveBackLast_27 : decode cX0_giveBackLast 27 = .ok (.ifnull 8, 3) := by decide +kernel
theorem dX0_giveBackLast_30 : decode cX0_giveBackLast 30 = .ok (.aload_n 1, 1) := by decide +kernel
theorem dX0_giveBackLast_31 : decode cX0_giveBackLast 31 = .ok (.aload_n 2, 1) := by decide +kernel
theorem dX0_giveBackLast_32 : decode cX0_giveBackLast 32 = .ok (.invokevirtual 29, 3) := by decide +kernel
theorem dX0_giveBackLast_35 : decode cX0_giveBackLast 35 = .ok (.return_, 1) := by decide +kernel
theorem dX0_placeAt_0 : decode cX0_placeAt 0 = .ok (.aload_n 0, 1) := by decide +kernel
theorem dX0_placeAt_1 : decode cX0_placeAt 1 = .ok (.getfield 18, 3) := by decide +kernel
theorem dX0_placeAt_4 : decode cX0_placeAt 4 = .ok (.iload_n 1, 1) := by decide +kernel
theorem dX0_placeAt_5 : decode cX0_placeAt 5 = .ok (.iadd, 1) := by decide +kernel
theorem dX0_placeAt_6 : decode cX0_placeAt 6 = .ok (.bipush 14, 2) := by decide +kernel
theorem dX0_placeAt_8 : decode cX0_placeAt 8 = .ok (.irem, 1) := by decide +kernel
theorem dX0_placeAt_9 : decode cX0_placeAt 9 = .ok (.istore_n 2, 1) := by decide +kernel
theorem dX0_placeAt_10 : decode cX0_placeAt 10 = .ok (.iload_n 2, 1) := by decide +kernel
theorem dX0_placeAt_11 : decode cX0_placeAt 11 = .ok (.ifCond .lt 21, 3) := by decide +kernel
theorem dX0_placeAt_14 : decode cX0_placeAt 14 = .ok (.iload_n 2, 1) := by decide +kernel
theorem dX0_placeAt_15 : decode cX0_placeAt 15 = .ok (.aload_n 0, 1) := by decide +kernel
theorem dX0_placeAt_16 : decode cX0_placeAt 16 = .ok (.getfield 11, 3) := by decide +kernel
theorem dX0_placeAt_19 : decode cX0_placeAt 19 = .ok (.arraylength, 1) := by decide +kernel
theorem dX0_placeAt_20 : decode cX0_placeAt 20 = .ok (.if_icmp .ge 12, 3) := by decide +kernel
theorem dX0_placeAt_23 : decode cX0_placeAt 23 = .ok (.aload_n 0, 1) := by decide +kernel
theorem dX0_placeAt_24 : decode cX0_placeAt 24 = .ok (.getfield 11, 3) := by decide +kernel
theorem dX0_placeAt_27 : decode cX0_placeAt 27 = .ok (.iload_n 2, 1) := by decide +kernel
theorem dX0_placeAt_28 : decode cX0_placeAt 28 = .ok (.aaload, 1) := by decide +kernel
theorem dX0_placeAt_29 : decode cX0_placeAt 29 = .ok (.goto 4, 3) := by decide +kernel
theorem dX0_placeAt_32 : decode cX0_placeAt 32 = .ok (.aconst_null, 1) := by decide +kernel
theorem dX0_placeAt_33 : decode cX0_placeAt 33 = .ok (.areturn, 1) := by decide +kernel
theorem dX1_init_0 : decode cX1_init 0 = .ok (.aload_n 0, 1) := by decide +kernel
theorem dX1_init_1 : decode cX1_init 1 = .ok (.invokespecial 3, 3) := by decide +kernel
theorem dX1_init_4 : decode cX1_init 4 = .ok (.aload_n 0, 1) := by decide +kernel
theorem dX1_init_5 : decode cX1_init 5 = .ok (.iconst 5, 1) := by decide +kernel
theorem dX1_init_6 : decode cX1_init 6 = .ok (.newarray .int, 2) := by decide +kernel
theorem dX1_init_8 : decode cX1_init 8 = .ok (.putfield 9, 3) := by decide +kernel
theorem dX1_init_11 : decode cX1_init 11 = .ok (.aload_n 0, 1) := by decide +kernel
theorem dX1_init_12 : decode cX1_init 12 = .ok (.iconst 5, 1) := by decide +kernel
theorem dX1_init_13 : decode cX1_init 13 = .ok (.newarray .int, 2) := by decide +kernel
theorem dX1_init_15 : decode cX1_init 15 = .ok (.putfield 15, 3) := by decide +kernel
theorem dX1_init_18 : decode cX1_init 18 = .ok (.aload_n 0, 1) := by decide +kernel
theorem dX1_init_19 : decode cX1_init 19 = .ok (.iconst 5, 1) := by decide +kernel
theorem dX1_init_20 : decode cX1_init 20 = .ok (.newarray .int, 2) := by decide +kernel
theorem dX1_init_22 : decode cX1_init 22 = .ok (.putfield 18, 3) := by decide +kernel
theorem dX1_init_25 : decode cX1_init 25 = .ok (.aload_n 0, 1) := by decide +kernel
theorem dX1_init_26 : decode cX1_init 26 = .ok (.iconst 4, 1) := by decide +kernel
theorem dX1_init_27 : decode cX1_init 27 = .ok (.newarray .int, 2) := by decide +kernel
theorem dX1_init_29 : decode cX1_init 29 = .ok (.putfield 21, 3) := by decide +kernel
theorem dX1_init_32 : decode cX1_init 32 = .ok (.aload_n 0, 1) := by decide +kernel
theorem dX1_init_33 : decode cX1_init 33 = .ok (.iconst 4, 1) := by decide +kernel
theorem dX1_init_34 : decode cX1_init 34 = .ok (.newarray .int, 2) := by decide +kernel
theorem dX1_init_36 : decode cX1_init 36 = .ok (.putfield 24, 3) := by decide +kernel
theorem dX1_init_39 : decode cX1_init 39 = .ok (.aload_n 0, 1) := by decide +kernel
theorem dX1_init_40 : decode cX1_init 40 = .ok (.iconst 4, 1) := by decide +kernel
theorem dX1_init_41 : decode cX1_init 41 = .ok (.newarray .int, 2) := by decide +kernel
theorem dX1_init_43 : decode cX1_init 43 = .ok (.putfield 27, 3) := by decide +kernel
theorem dX1_init_46 : decode cX1_init 46 = .ok (.aload_n 0, 1) := by decide +kernel
theorem dX1_init_47 : decode cX1_init 47 = .ok (.iconst 0, 1) := by decide +kernel
theorem dX1_init_48 : decode cX1_init 48 = .ok (.putfield 30, 3) := by decide +kernel
theorem dX1_init_51 : decode cX1_init 51 = .ok (.aload_n 0, 1) := by decide +kernel
theorem dX1_init_52 : decode cX1_init 52 = .ok (.iconst 0, 1) := by decide +kernel
theorem dX1_init_53 : decode cX1_init 53 = .ok (.putfield 34, 3) := by decide +kernel
theorem dX1_init_56 : decode cX1_init 56 = .ok (.return_, 1) := by decide +kernel
set_option maxRecDepth 20000 in
theorem ggX1_read_X5_size : GoodIn wsX1_read wsX5_size := goodIn_r _ [7, 8, 46, 47] (by decide +kernel) (by decide +kernel)
set_option maxRecDepth 20000 in
theorem gX1_read_X5_size : GoodIn wsX1_read (wsV RX1 37 RX5 yX5_size wsX5_size) := goodIn_app (goodIn_of _ (by decide +kernel)) ggX1_read_X5_size
set_option maxRecDepth 20000 in
theorem ggX1_read_X5_isPerson : GoodIn wsX1_read wsX5_isPerson := goodIn_r _ [12, 13, 14, 15, 16, 46, 47] (by decide +kernel) (by decide +kernel)
set_option maxRecDepth 20000 in
theorem gX1_read_X5_isPerson : GoodIn wsX1_read (wsV RX1 43 RX5 yX5_isPerson wsX5_isPerson) := goodIn_app (goodIn_of _ (by decide +kernel)) ggX1_read_X5_isPerson
set_option maxRecDepth 20000 in
theorem ggX1_read_X1_addPerson : GoodIn wsX1_read wsX1_addPerson := goodIn_r _ [21, 1, 22, 23, 24, 25, 26, 27, 6, 28, 13, 14, 15, 16, 29, 30, 38, 39, 40, 41, 42, 43, 44, 45, 46, 47] (by decide +kernel) (by decide +kernel)
set_option maxRecDepth 20000 in
theorem gX1_read_X1_addPerson : GoodIn wsX1_read (wsV RX1 47 RX1 yX1_addPerson wsX1_addPerson) := goodIn_app (goodIn_of _ (by decide +kernel)) ggX1_read_X1_addPerson
set_option maxRecDepth 20000 in
theorem ggX1_read_X1_addGlove : GoodIn wsX1_read wsX1_addGlove := goodIn_r _ [34, 2, 35, 36, 37, 25, 26, 27, 6, 28, 13, 14, 15, 16, 29, 30, 38, 39, 40, 41, 42, 43, 44, 45, 46, 47] (by decide +kernel) (by decide +kernel)
set_option maxRecDepth 20000 in
theorem gX1_read_X1_addGlove : GoodIn wsX1_read (wsV RX1 51 RX1 yX1_addGlove wsX1_addGlove) := goodIn_app (goodIn_of _ (by decide +kernel)) ggX1_read_X1_addGlove
theorem dX1_read_0 : decode cX1_read 0 = .ok (.aload_n 0, 1) := by decide +kernel
theorem dX1_read_1 : decode cX1_read 1 = .ok (.iconst 0, 1) := by decide +kernel
theorem dX1_read_2 : decode cX1_read 2 = .ok (.putfield 30, 3) := by decide +kernel
theorem dX1_read_5 : decode cX1_read 5 = .ok (.aload_n 0, 1) := by decide +kernel
theorem dX1_read_6 : decode cX1_read 6 = .ok (.iconst 0, 1) := by decide +kernel
theorem dX1_read_7 : decode cX1_read 7 = .ok (.putfield 34, 3) := by decide +kernel
theorem dX1_read_10 : decode cX1_read 10 = .ok (.iconst 1, 1) := by decide +kernel
theorem dX1_read_11 : decode cX1_read 11 = .ok (.istore_n 2, 1) := by decide +kernel
theorem dX1_read_12 : decode cX1_read 12 = .ok (.iload_n 2, 1) := by decide +kernel
theorem dX1_read_13 : decode cX1_read 13 = .ok (.aload_n 1, 1) := by decide +kernel
theorem dX1_read_14 : decode cX1_read 14 = .ok (.invokevirtual 37, 3) := by decide +kernel
theorem dX1_read_17 : decode cX1_read 17 = .ok (.if_icmp .ge 32, 3) := by decide +kernel
theorem dX1_read_20 : decode cX1_read 20 = .ok (.aload_n 1, 1) := by decide +kernel
theorem dX1_read_21 : decode cX1_read 21 = .ok (.iload_n 2, 1) := by decide +kernel
theorem dX1_read_22 : decode cX1_read 22 = .ok (.invokevirtual 43, 3) := by decide +kernel
theorem dX1_read_25 : decode cX1_read 25 = .ok (.ifCond .eq 12, 3) := by decide +kernel
theorem dX1_read_28 : decode cX1_read 28 = .ok (.aload_n 0, 1) := by decide +kernel
theorem dX1_read_29 : decode cX1_read 29 = .ok (.aload_n 1, 1) := by decide +kernel
theorem dX1_read_30 : decode cX1_read 30 = .ok (.iload_n 2, 1) := by decide +kernel
theorem dX1_read_31 : decode cX1_read 31 = .ok (.invokevirtual 47, 3) := by decide +kernel
theorem dX1_read_34 : decode cX1_read 34 = .ok (.goto 9, 3) := by decide +kernel
theorem dX1_read_37 : decode cX1_read 37 = .ok (.aload_n 0, 1) := by decide +kernel
theorem dX1_read_38 : decode cX1_read 38 = .ok (.aload_n 1, 1) := by decide +kernel
theorem dX1_read_39 : decode cX1_read 39 = .ok (.iload_n 2, 1) := by decide +kernel
theorem dX1_read_40 : decode cX1_read 40 = .ok (.invokevirtual 51, 3) := by decide +kernel
theorem dX1_read_43 : decode cX1_read 43 = .ok (.iinc 2 4, 3) := by decide +kernel
theorem dX1_read_46 : decode cX1_read 46 = .ok (.goto (-34), 3) := by decide +kernel
theorem dX1_read_49 : decode cX1_read 49 = .ok (.return_, 1) := by decide +kernel
set_option maxRecDepth 20000 in
theorem ggX1_addPerson_X5_figureAt : GoodIn wsX1_addPerson wsX5_figureAt := goodIn_r _ [9, 10, 11, 12, 13, 24, 25] (by decide +kernel) (by decide +kernel)
set_option maxRecDepth 20000 in
theorem gX1_addPerson_X5_figureAt : GoodIn wsX1_addPerson (wsV RX1 54 RX5 yX5_figureAt wsX5_figureAt) := goodIn_app (goodIn_of _ (by decide +kernel)) ggX1_addPerson_X5_figureAt
set_option maxRecDepth 20000 in
theorem ggX1_addPerson_X6_put : GoodIn wsX1_addPerson wsX6_put := goodIn_r _ [15] (by decide +kernel) (by decide +kernel)
set_option maxRecDepth 20000 in
theorem gX1_addPerson_X6_put_n58 : GoodIn wsX1_addPerson (wsX6_put) := ggX1_addPerson_X6_put
theorem dX1_addPerson_0 : decode cX1_addPerson 0 = .ok (.aload_n 0, 1) := by decide +kernel
theorem dX1_addPerson_1 : decode cX1_addPerson 1 = .ok (.getfield 30, 3) := by decide +kernel
theorem dX1_addPerson_4 : decode cX1_addPerson 4 = .ok (.iconst 5, 1) := by decide +kernel
theorem dX1_addPerson_5 : decode cX1_addPerson 5 = .ok (.if_icmp .ge 67, 3) := by decide +kernel
theorem dX1_addPerson_8 : decode cX1_addPerson 8 = .ok (.aload_n 0, 1) := by decide +kernel
theorem dX1_addPerson_9 : decode cX1_addPerson 9 = .ok (.getfield 9, 3) := by decide +kernel
theorem dX1_addPerson_12 : decode cX1_addPerson 12 = .ok (.aload_n 0, 1) := by decide +kernel
theorem dX1_addPerson_13 : decode cX1_addPerson 13 = .ok (.getfield 30, 3) := by decide +kernel
theorem dX1_addPerson_16 : decode cX1_addPerson 16 = .ok (.aload_n 1, 1) := by decide +kernel
theorem dX1_addPerson_17 : decode cX1_addPerson 17 = .ok (.iload_n 2, 1) := by decide +kernel
theorem dX1_addPerson_18 : decode cX1_addPerson 18 = .ok (.iconst 1, 1) := by decide +kernel
theorem dX1_addPerson_19 : decode cX1_addPerson 19 = .ok (.iadd, 1) := by decide +kernel
theorem dX1_addPerson_20 : decode cX1_addPerson 20 = .ok (.invokevirtual 54, 3) := by decide +kernel
theorem dX1_addPerson_23 : decode cX1_addPerson 23 = .ok (.invokestatic 58, 3) := by decide +kernel
theorem dX1_addPerson_26 : decode cX1_addPerson 26 = .ok (.aload_n 0, 1) := by decide +kernel
theorem dX1_addPerson_27 : decode cX1_addPerson 27 = .ok (.getfield 15, 3) := by decide +kernel
theorem dX1_addPerson_30 : decode cX1_addPerson 30 = .ok (.aload_n 0, 1) := by decide +kernel
theorem dX1_addPerson_31 : decode cX1_addPerson 31 = .ok (.getfield 30, 3) := by decide +kernel
theorem dX1_addPerson_34 : decode cX1_addPerson 34 = .ok (.aload_n 1, 1) := by decide +kernel
theorem dX1_addPerson_35 : decode cX1_addPerson 35 = .ok (.iload_n 2, 1) := by decide +kernel
theorem dX1_addPerson_36 : decode cX1_addPerson 36 = .ok (.iconst 2, 1) := by decide +kernel
theorem dX1_addPerson_37 : decode cX1_addPerson 37 = .ok (.iadd, 1) := by decide +kernel
theorem dX1_addPerson_38 : decode cX1_addPerson 38 = .ok (.invokevirtual 54, 3) := by decide +kernel
theorem dX1_addPerson_41 : decode cX1_addPerson 41 = .ok (.invokestatic 58, 3) := by decide +kernel
theorem dX1_addPerson_44 : decode cX1_addPerson 44 = .ok (.aload_n 0, 1) := by decide +kernel
theorem dX1_addPerson_45 : decode cX1_addPerson 45 = .ok (.getfield 18, 3) := by decide +kernel
theorem dX1_addPerson_48 : decode cX1_addPerson 48 = .ok (.aload_n 0, 1) := by decide +kernel
theorem dX1_addPerson_49 : decode cX1_addPerson 49 = .ok (.getfield 30, 3) := by decide +kernel
theorem dX1_addPerson_52 : decode cX1_addPerson 52 = .ok (.aload_n 1, 1) := by decide +kernel
theorem dX1_addPerson_53 : decode cX1_addPerson 53 = .ok (.iload_n 2, 1) := by decide +kernel
theorem dX1_addPerson_54 : decode cX1_addPerson 54 = .ok (.iconst 3, 1) := by decide +kernel
theorem dX1_addPerson_55 : decode cX1_addPerson 55 = .ok (.iadd, 1) := by decide +kernel
theorem dX1_addPerson_56 : decode cX1_addPerson 56 = .ok (.invokevirtual 54, 3) := by decide +kernel
theorem dX1_addPerson_59 : decode cX1_addPerson 59 = .ok (.invokestatic 58, 3) := by decide +kernel
theorem dX1_addPerson_62 : decode cX1_addPerson 62 = .ok (.aload_n 0, 1) := by decide +kernel
theorem dX1_addPerson_63 : decode cX1_addPerson 63 = .ok (.dup, 1) := by decide +kernel
theorem dX1_addPerson_64 : decode cX1_addPerson 64 = .ok (.getfield 30, 3) := by decide +kernel
theorem dX1_addPerson_67 : decode cX1_addPerson 67 = .ok (.iconst 1, 1) := by decide +kernel
theorem dX1_addPerson_68 : decode cX1_addPerson 68 = .ok (.iadd, 1) := by decide +kernel
theorem dX1_addPerson_69 : decode cX1_addPerson 69 = .ok (.putfield 30, 3) := by decide +kernel
theorem dX1_addPerson_72 : decode cX1_addPerson 72 = .ok (.return_, 1) := by decide +kernel
set_option maxRecDepth 20000 in
theorem ggX1_addGlove_X5_figureAt : GoodIn wsX1_addGlove wsX5_figureAt := goodIn_r _ [9, 10, 11, 12, 13, 24, 25] (by decide +kernel) (by decide +kernel)
set_option maxRecDepth 20000 in
theorem gX1_addGlove_X5_figureAt : GoodIn wsX1_addGlove (wsV RX1 54 RX5 yX5_figureAt wsX5_figureAt) := goodIn_app (goodIn_of _ (by decide +kernel)) ggX1_addGlove_X5_figureAt
set_option maxRecDepth 20000 in
theorem ggX1_addGlove_X6_put : GoodIn wsX1_addGlove wsX6_put := goodIn_r _ [15] (by decide +kernel) (by decide +kernel)
set_option maxRecDepth 20000 in
theorem gX1_addGlove_X6_put_n58 : GoodIn wsX1_addGlove (wsX6_put) := ggX1_addGlove_X6_put
theorem dX1_addGlove_0 : decode cX1_addGlove 0 = .ok (.aload_n 0, 1) := by decide +kernel
theorem dX1_addGlove_1 : decode cX1_addGlove 1 = .ok (.getfield 34, 3) := by decide +kernel
theorem dX1_addGlove_4 : decode cX1_addGlove 4 = .ok (.iconst 4, 1) := by decide +kernel
theorem dX1_addGlove_5 : decode cX1_addGlove 5 = .ok (.if_icmp .ge 67, 3) := by decide +kernel
theorem dX1_addGlove_8 : decode cX1_addGlove 8 = .ok (.aload_n 0, 1) := by decide +kernel
theorem dX1_addGlove_9 : decode cX1_addGlove 9 = .ok (.getfield 21, 3) := by decide +kernel
theorem dX1_addGlove_12 : decode cX1_addGlove 12 = .ok (.aload_n 0, 1) := by decide +kernel
theorem dX1_addGlove_13 : decode cX1_addGlove 13 = .ok (.getfield 34, 3) := by decide +kernel
theorem dX1_addGlove_16 : decode cX1_addGlove 16 = .ok (.aload_n 1, 1) := by decide +kernel
theorem dX1_addGlove_17 : decode cX1_addGlove 17 = .ok (.iload_n 2, 1) := by decide +kernel
theorem dX1_addGlove_18 : decode cX1_addGlove 18 = .ok (.iconst 1, 1) := by decide +kernel
theorem dX1_addGlove_19 : decode cX1_addGlove 19 = .ok (.iadd, 1) := by decide +kernel
theorem dX1_addGlove_20 : decode cX1_addGlove 20 = .ok (.invokevirtual 54, 3) := by decide +kernel
theorem dX1_addGlove_23 : decode cX1_addGlove 23 = .ok (.invokestatic 58, 3) := by decide +kernel
theorem dX1_addGlove_26 : decode cX1_addGlove 26 = .ok (.aload_n 0, 1) := by decide +kernel
theorem dX1_addGlove_27 : decode cX1_addGlove 27 = .ok (.getfield 24, 3) := by decide +kernel
theorem dX1_addGlove_30 : decode cX1_addGlove 30 = .ok (.aload_n 0, 1) := by decide +kernel
theorem dX1_addGlove_31 : decode cX1_addGlove 31 = .ok (.getfield 34, 3) := by decide +kernel
theorem dX1_addGlove_34 : decode cX1_addGlove 34 = .ok (.aload_n 1, 1) := by decide +kernel
theorem dX1_addGlove_35 : decode cX1_addGlove 35 = .ok (.iload_n 2, 1) := by decide +kernel
theorem dX1_addGlove_36 : decode cX1_addGlove 36 = .ok (.iconst 2, 1) := by decide +kernel
theorem dX1_addGlove_37 : decode cX1_addGlove 37 = .ok (.iadd, 1) := by decide +kernel
theorem dX1_addGlove_38 : decode cX1_addGlove 38 = .ok (.invokevirtual 54, 3) := by decide +kernel
theorem dX1_addGlove_41 : decode cX1_addGlove 41 = .ok (.invokestatic 58, 3) := by decide +kernel
theorem dX1_addGlove_44 : decode cX1_addGlove 44 = .ok (.aload_n 0, 1) := by decide +kernel
theorem dX1_addGlove_45 : decode cX1_addGlove 45 = .ok (.getfield 27, 3) := by decide +kernel
theorem dX1_addGlove_48 : decode cX1_addGlove 48 = .ok (.aload_n 0, 1) := by decide +kernel
theorem dX1_addGlove_49 : decode cX1_addGlove 49 = .ok (.getfield 34, 3) := by decide +kernel
theorem dX1_addGlove_52 : decode cX1_addGlove 52 = .ok (.aload_n 1, 1) := by decide +kernel
theorem dX1_addGlove_53 : decode cX1_addGlove 53 = .ok (.iload_n 2, 1) := by decide +kernel
theorem dX1_addGlove_54 : decode cX1_addGlove 54 = .ok (.iconst 3, 1) := by decide +kernel
theorem dX1_addGlove_55 : decode cX1_addGlove 55 = .ok (.iadd, 1) := by decide +kernel
theorem dX1_addGlove_56 : decode cX1_addGlove 56 = .ok (.invokevirtual 54, 3) := by decide +kernel
theorem dX1_addGlove_59 : decode cX1_addGlove 59 = .ok (.invokestatic 58, 3) := by decide +kernel
theorem dX1_addGlove_62 : decode cX1_addGlove 62 = .ok (.aload_n 0, 1) := by decide +kernel
theorem dX1_addGlove_63 : decode cX1_addGlove 63 = .ok (.dup, 1) := by decide +kernel
theorem dX1_addGlove_64 : decode cX1_addGlove 64 = .ok (.getfield 34, 3) := by decide +kernel
theorem dX1_addGlove_67 : decode cX1_addGlove 67 = .ok (.iconst 1, 1) := by decide +kernel
theorem dX1_addGlove_68 : decode cX1_addGlove 68 = .ok (.iadd, 1) := by decide +kernel
theorem dX1_addGlove_69 : decode cX1_addGlove 69 = .ok (.putfield 34, 3) := by decide +kernel
theorem dX1_addGlove_72 : decode cX1_addGlove 72 = .ok (.return_, 1) := by decide +kernel
theorem dX1_people_0 : decode cX1_people 0 = .ok (.aload_n 0, 1) := by decide +kernel
theorem dX1_people_1 : decode cX1_people 1 = .ok (.getfield 30, 3) := by decide +kernel
theorem dX1_people_4 : decode cX1_people 4 = .ok (.ireturn, 1) := by decide +kernel
theorem dX1_gloves_0 : decode cX1_gloves 0 = .ok (.aload_n 0, 1) := by decide +kernel
theorem dX1_gloves_1 : decode cX1_gloves 1 = .ok (.getfield 34, 3) := by decide +kernel
theorem dX1_gloves_4 : decode cX1_gloves 4 = .ok (.ireturn, 1) := by decide +kernel
theorem dX1_hasPerson_0 : decode cX1_hasPerson 0 = .ok (.iload_n 1, 1) := by decide +kernel
theorem dX1_hasPerson_1 : decode cX1_hasPerson 1 = .ok (.ifCond .lt 15, 3) := by decide +kernel
theorem dX1_hasPerson_4 : decode cX1_hasPerson 4 = .ok (.iload_n 1, 1) := by decide +kernel
theorem dX1_hasPerson_5 : decode cX1_hasPerson 5 = .ok (.aload_n 0, 1) := by decide +kernel
theorem dX1_hasPerson_6 : decode cX1_hasPerson 6 = .ok (.getfield 30, 3) := by decide +kernel
theorem dX1_hasPerson_9 : decode cX1_hasPerson 9 = .ok (.if_icmp .ge 7, 3) := by decide +kernel
theorem dX1_hasPerson_12 : decode cX1_hasPerson 12 = .ok (.iconst 1, 1) := by decide +kernel
theorem dX1_hasPerson_13 : decode cX1_hasPerson 13 = .ok (.goto 4, 3) := by decide +kernel
theorem dX1_hasPerson_16 : decode cX1_hasPerson 16 = .ok (.iconst 0, 1) := by decide +kernel
theorem dX1_hasPerson_17 : decode cX1_hasPerson 17 = .ok (.ireturn, 1) := by decide +kernel
theorem dX1_hasGlove_0 : decode cX1_hasGlove 0 = .ok (.iload_n 1, 1) := by decide +kernel
theorem dX1_hasGlove_1 : decode cX1_hasGlove 1 = .ok (.ifCond .lt 15, 3) := by decide +kernel
theorem dX1_hasGlove_4 : decode cX1_hasGlove 4 = .ok (.iload_n 1, 1) := by decide +kernel
theorem dX1_hasGlove_5 : decode cX1_hasGlove 5 = .ok (.aload_n 0, 1) := by decide +kernel
theorem dX1_hasGlove_6 : decode cX1_hasGlove 6 = .ok (.getfield 34, 3) := by decide +kernel
theorem dX1_hasGlove_9 : decode cX1_hasGlove 9 = .ok (.if_icmp .ge 7, 3) := by decide +kernel
theorem dX1_hasGlove_12 : decode cX1_hasGlove 12 = .ok (.iconst 1, 1) := by decide +kernel
theorem dX1_hasGlove_13 : decode cX1_hasGlove 13 = .ok (.goto 4, 3) := by decide +kernel
theorem dX1_hasGlove_16 : decode cX1_hasGlove 16 = .ok (.iconst 0, 1) := by decide +kernel
theorem dX1_hasGlove_17 : decode cX1_hasGlove 17 = .ok (.ireturn, 1) := by decide +kernel
set_option maxRecDepth 20000 in
theorem ggX1_ownOf_X6_at : GoodIn wsX1_ownOf wsX6_at := goodIn_r _ [4] (by decide +kernel) (by decide +kernel)
set_option maxRecDepth 20000 in
theorem gX1_ownOf_X6_at_n62 : GoodIn wsX1_ownOf (wsX6_at) := ggX1_ownOf_X6_at
theorem dX1_ownOf_0 : decode cX1_ownOf 0 = .ok (.aload_n 0, 1) := by decide +kernel
theorem dX1_ownOf_1 : decode cX1_ownOf 1 = .ok (.getfield 9, 3) := by decide +kernel
theorem dX1_ownOf_4 : decode cX1_ownOf 4 = .ok (.iload_n 1, 1) := by decide +kernel
theorem dX1_ownOf_5 : decode cX1_ownOf 5 = .ok (.invokestatic 62, 3) := by decide +kernel
theorem dX1_ownOf_8 : decode cX1_ownOf 8 = .ok (.ireturn, 1) := by decide +kernel
set_option maxRecDepth 20000 in
theorem ggX1_dearTo_X6_at : GoodIn wsX1_dearTo wsX6_at := goodIn_r _ [4] (by decide +kernel) (by decide +kernel)
set_option maxRecDepth 20000 in
theorem gX1_dearTo_X6_at_n62 : GoodIn wsX1_dearTo (wsX6_at) := ggX1_dearTo_X6_at
theorem dX1_dearTo_0 : decode cX1_dearTo 0 = .ok (.aload_n 0, 1) := by decide +kernel
theorem dX1_dearTo_1 : decode cX1_dearTo 1 = .ok (.getfield 15, 3) := by decide +kernel
theorem dX1_dearTo_4 : decode cX1_dearTo 4 = .ok (.iload_n 1, 1) := by decide +kernel
theorem dX1_dearTo_5 : decode cX1_dearTo 5 = .ok (.invokestatic 62, 3) := by decide +kernel
theorem dX1_dearTo_8 : decode cX1_dearTo 8 = .ok (.ireturn, 1) := by decide +kernel
set_option maxRecDepth 20000 in
theorem ggX1_worthTo_X6_at : GoodIn wsX1_worthTo wsX6_at := goodIn_r _ [4] (by decide +kernel) (by decide +kernel)
set_option maxRecDepth 20000 in
theorem gX1_worthTo_X6_at_n62 : GoodIn wsX1_worthTo (wsX6_at) := ggX1_worthTo_X6_at
theorem dX1_worthTo_0 : decode cX1_worthTo 0 = .ok (.aload_n 0, 1) := by decide +kernel
theorem dX1_worthTo_1 : decode cX1_worthTo 1 = .ok (.getfield 18, 3) := by decide +kernel
theorem dX1_worthTo_4 : decode cX1_worthTo 4 = .ok (.iload_n 1, 1) := by decide +kernel
theorem dX1_worthTo_5 : decode cX1_worthTo 5 = .ok (.invokestatic 62, 3) := by decide +kernel
theorem dX1_worthTo_8 : decode cX1_worthTo 8 = .ok (.ireturn, 1) := by decide +kernel
set_option maxRecDepth 20000 in
theorem ggX1_roomOf_X6_at : GoodIn wsX1_roomOf wsX6_at := goodIn_r _ [4] (by decide +kernel) (by decide +kernel)
set_option maxRecDepth 20000 in
theorem gX1_roomOf_X6_at_n62 : GoodIn wsX1_roomOf (wsX6_at) := ggX1_roomOf_X6_at
theorem dX1_roomOf_0 : decode cX1_roomOf 0 = .ok (.aload_n 0, 1) := by decide +kernel
theorem dX1_roomOf_1 : decode cX1_roomOf 1 = .ok (.getfield 21, 3) := by decide +kernel
theorem dX1_roomOf_4 : decode cX1_roomOf 4 = .ok (.iload_n 1, 1) := by decide +kernel
theorem dX1_roomOf_5 : decode cX1_roomOf 5 = .ok (.invokestatic 62, 3) := by decide +kernel
theorem dX1_roomOf_8 : decode cX1_roomOf 8 = .ok (.ireturn, 1) := by decide +kernel
set_option maxRecDepth 20000 in
theorem ggX1_kindOf_X6_at : GoodIn wsX1_kindOf wsX6_at := goodIn_r _ [4] (by decide +kernel) (by decide +kernel)
set_option maxRecDepth 20000 in
theorem gX1_kindOf_X6_at_n62 : GoodIn wsX1_kindOf (wsX6_at) := ggX1_kindOf_X6_at
theorem dX1_kindOf_0 : decode cX1_kindOf 0 = .ok (.aload_n 0, 1) := by decide +kernel
theorem dX1_kindOf_1 : decode cX1_kindOf 1 = .ok (.getfield 24, 3) := by decide +kernel
theorem dX1_kindOf_4 : decode cX1_kindOf 4 = .ok (.iload_n 1, 1) := by decide +kernel
theorem dX1_kindOf_5 : decode cX1_kindOf 5 = .ok (.invokestatic 62, 3) := by decide +kernel
theorem dX1_kindOf_8 : decode cX1_kindOf 8 = .ok (.ireturn, 1) := by decide +kernel
set_option maxRecDepth 20000 in
theorem ggX1_toldOf_X1_hasGlove : GoodIn wsX1_toldOf wsX1_hasGlove := goodIn_r _ [6, 7, 11, 12, 13, 14, 15, 16, 17, 18] (by decide +kernel) (by decide +kernel)
set_option maxRecDepth 20000 in
theorem gX1_toldOf_X1_hasGlove : GoodIn wsX1_toldOf (wsV RX1 66 RX1 yX1_hasGlove wsX1_hasGlove) := goodIn_app (goodIn_of _ (by decide +kernel)) ggX1_toldOf_X1_hasGlove
set_option maxRecDepth 20000 in
theorem ggX1_toldOf_X6_at : GoodIn wsX1_toldOf wsX6_at := goodIn_r _ [10] (by decide +kernel) (by decide +kernel)
set_option maxRecDepth 20000 in
theorem gX1_toldOf_X6_at_n62 : GoodIn wsX1_toldOf (wsX6_at) := ggX1_toldOf_X6_at
theorem dX1_toldOf_0 : decode cX1_toldOf 0 = .ok (.aload_n 0, 1) := by decide +kernel
theorem dX1_toldOf_1 : decode cX1_toldOf 1 = .ok (.iload_n 1, 1) := by decide +kernel
theorem dX1_toldOf_2 : decode cX1_toldOf 2 = .ok (.invokevirtual 66, 3) := by decide +kernel
theorem dX1_toldOf_5 : decode cX1_toldOf 5 = .ok (.ifCond .eq 14, 3) := by decide +kernel
theorem dX1_toldOf_8 : decode cX1_toldOf 8 = .ok (.aload_n 0, 1) := by decide +kernel
theorem dX1_toldOf_9 : decode cX1_toldOf 9 = .ok (.getfield 27, 3) := by decide +kernel
theorem dX1_toldOf_12 : decode cX1_toldOf 12 = .ok (.iload_n 1, 1) := by decide +kernel
theorem dX1_toldOf_13 : decode cX1_toldOf 13 = .ok (.invokestatic 62, 3) := by decide +kernel
theorem dX1_toldOf_16 : decode cX1_toldOf 16 = .ok (.goto 4, 3) := by decide +kernel
theorem dX1_toldOf_19 : decode cX1_toldOf 19 = .ok (.iconst 0, 1) := by decide +kernel
theorem dX1_toldOf_20 : decode cX1_toldOf 20 = .ok (.ireturn, 1) := by decide +kernel
set_option maxRecDepth 20000 in
theorem ggX1_isSomeonesOwn_X1_ownOf : GoodIn wsX1_isSomeonesOwn wsX1_ownOf := goodIn_r _ [6, 7, 8, 9, 10, 11, 12, 13, 14, 15, 16, 17, 18] (by decide +kernel) (by decide +kernel)
set_option maxRecDepth 20000 in
theorem gX1_isSomeonesOwn_X1_ownOf : GoodIn wsX1_isSomeonesOwn (wsV RX1 69 RX1 yX1_ownOf wsX1_ownOf) := goodIn_app (goodIn_of _ (by decide +kernel)) ggX1_isSomeonesOwn_X1_ownOf
theorem dX1_isSomeonesOwn_0 : decode cX1_isSomeonesOwn 0 = .ok (.iconst 0, 1) := by decide +kernel
theorem dX1_isSomeonesOwn_1 : decode cX1_isSomeonesOwn 1 = .ok (.istore_n 2, 1) := by decide +kernel
theorem dX1_isSomeonesOwn_2 : decode cX1_isSomeonesOwn 2 = .ok (.iload_n 2, 1) := by decide +kernel
theorem dX1_isSomeonesOwn_3 : decode cX1_isSomeonesOwn 3 = .ok (.aload_n 0, 1) := by decide +kernel
theorem dX1_isSomeonesOwn_4 : decode cX1_isSomeonesOwn 4 = .ok (.getfield 30, 3) := by decide +kernel
theorem dX1_isSomeonesOwn_7 : decode cX1_isSomeonesOwn 7 = .ok (.if_icmp .ge 20, 3) := by decide +kernel
theorem dX1_isSomeonesOwn_10 : decode cX1_isSomeonesOwn 10 = .ok (.aload_n 0, 1) := by decide +kernel
theorem dX1_isSomeonesOwn_11 : decode cX1_isSomeonesOwn 11 = .ok (.iload_n 2, 1) := by decide +kernel
theorem dX1_isSomeonesOwn_12 : decode cX1_isSomeonesOwn 12 = .ok (.invokevirtual 69, 3) := by decide +kernel
theorem dX1_isSomeonesOwn_15 : decode cX1_isSomeonesOwn 15 = .ok (.iload_n 1, 1) := by decide +kernel
theorem dX1_isSomeonesOwn_16 : decode cX1_isSomeonesOwn 16 = .ok (.if_icmp .ne 5, 3) := by decide +kernel
theorem dX1_isSomeonesOwn_19 : decode cX1_isSomeonesOwn 19 = .ok (.iconst 1, 1) := by decide +kernel
theorem dX1_isSomeonesOwn_20 : decode cX1_isSomeonesOwn 20 = .ok (.ireturn, 1) := by decide +kernel
theorem dX1_isSomeonesOwn_21 : decode cX1_isSomeonesOwn 21 = .ok (.iinc 2 1, 3) := by decide +kernel
theorem dX1_isSomeonesOwn_24 : decode cX1_isSomeonesOwn 24 = .ok (.goto (-22), 3) := by decide +kernel
theorem dX1_isSomeonesOwn_27 : decode cX1_isSomeonesOwn 27 = .ok (.iconst 0, 1) := by decide +kernel
theorem dX1_isSomeonesOwn_28 : decode cX1_isSomeonesOwn 28 = .ok (.ireturn, 1) := by decide +kernel
set_option maxRecDepth 20000 in
theorem ggX1_reply_X6_lastOf : GoodIn wsX1_reply wsX6_lastOf := goodIn_r _ [3] (by decide +kernel) (by decide +kernel)
set_option maxRecDepth 20000 in
theorem gX1_reply_X6_lastOf_n72 : GoodIn wsX1_reply (wsX6_lastOf) := ggX1_reply_X6_lastOf
set_option maxRecDepth 20000 in
theorem ggX1_reply_X1_kindOf : GoodIn wsX1_reply wsX1_kindOf := goodIn_r _ [8, 9, 10, 2, 11, 19, 20, 21, 22, 23, 24, 25, 26] (by decide +kernel) (by decide +kernel)
set_option maxRecDepth 20000 in
theorem gX1_reply_X1_kindOf : GoodIn wsX1_reply (wsV RX1 75 RX1 yX1_kindOf wsX1_kindOf) := goodIn_app (goodIn_of _ (by decide +kernel)) ggX1_reply_X1_kindOf
set_option maxRecDepth 20000 in
theorem ggX1_reply_X6_firstOf : GoodIn wsX1_reply wsX6_firstOf := goodIn_r _ [13] (by decide +kernel) (by decide +kernel)
set_option maxRecDepth 20000 in
theorem gX1_reply_X6_firstOf_n78 : GoodIn wsX1_reply (wsX6_firstOf) := ggX1_reply_X6_firstOf
set_option maxRecDepth 20000 in
theorem ggX1_reply_X1_ownOf : GoodIn wsX1_reply wsX1_ownOf := goodIn_r _ [17, 18, 10, 2, 11, 19, 20, 21, 22, 23, 24, 25, 26] (by decide +kernel) (by decide +kernel)
set_option maxRecDepth 20000 in
theorem gX1_reply_X1_ownOf : GoodIn wsX1_reply (wsV RX1 69 RX1 yX1_ownOf wsX1_ownOf) := goodIn_app (goodIn_of _ (by decide +kernel)) ggX1_reply_X1_ownOf
theorem dX1_reply_0 : decode cX1_reply 0 = .ok (.iload_n 2, 1) := by decide +kernel
theorem dX1_reply_1 : decode cX1_reply 1 = .ok (.invokestatic 72, 3) := by decide +kernel
theorem dX1_reply_4 : decode cX1_reply 4 = .ok (.istore 4, 2) := by decide +kernel
theorem dX1_reply_6 : decode cX1_reply 6 = .ok (.aload_n 0, 1) := by decide +kernel
theorem dX1_reply_7 : decode cX1_reply 7 = .ok (.iload_n 1, 1) := by decide +kernel
theorem dX1_reply_8 : decode cX1_reply 8 = .ok (.invokevirtual 75, 3) := by decide +kernel
theorem dX1_reply_11 : decode cX1_reply 11 = .ok (.tableswitch 63 1 3 #[25, 41, 46], 25) := by decide +kernel
theorem dX1_reply_36 : decode cX1_reply 36 = .ok (.iload 4, 2) := by decide +kernel
theorem dX1_reply_38 : decode cX1_reply 38 = .ok (.iconst 4, 1) := by decide +kernel
theorem dX1_reply_39 : decode cX1_reply 39 = .ok (.if_icmp .le 10, 3) := by decide +kernel
theorem dX1_reply_42 : decode cX1_reply 42 = .ok (.iload 4, 2) := by decide +kernel
theorem dX1_reply_44 : decode cX1_reply 44 = .ok (.iconst 4, 1) := by decide +kernel
theorem dX1_reply_45 : decode cX1_reply 45 = .ok (.isub, 1) := by decide +kernel
theorem dX1_reply_46 : decode cX1_reply 46 = .ok (.goto 5, 3) := by decide +kernel
theorem dX1_reply_49 : decode cX1_reply 49 = .ok (.iload 4, 2) := by decide +kernel
theorem dX1_reply_51 : decode cX1_reply 51 = .ok (.ireturn, 1) := by decide +kernel
theorem dX1_reply_52 : decode cX1_reply 52 = .ok (.iload_n 2, 1) := by decide +kernel
theorem dX1_reply_53 : decode cX1_reply 53 = .ok (.invokestatic 78, 3) := by decide +kernel
theorem dX1_reply_56 : decode cX1_reply 56 = .ok (.ireturn, 1) := by decide +kernel
theorem dX1_reply_57 : decode cX1_reply 57 = .ok (.iload 4, 2) := by decide +kernel
theorem dX1_reply_59 : decode cX1_reply 59 = .ok (.aload_n 0, 1) := by decide +kernel
theorem dX1_reply_60 : decode cX1_reply 60 = .ok (.iload_n 3, 1) := by decide +kernel
theorem dX1_reply_61 : decode cX1_reply 61 = .ok (.invokevirtual 69, 3) := by decide +kernel
theorem dX1_reply_64 : decode cX1_reply 64 = .ok (.if_icmp .ne 7, 3) := by decide +kernel
theorem dX1_reply_67 : decode cX1_reply 67 = .ok (.iconst 0, 1) := by decide +kernel
theorem dX1_reply_68 : decode cX1_reply 68 = .ok (.goto 5, 3) := by decide +kernel
theorem dX1_reply_71 : decode cX1_reply 71 = .ok (.iload 4, 2) := by decide +kernel
theorem dX1_reply_73 : decode cX1_reply 73 = .ok (.ireturn, 1) := by decide +kernel
theorem dX1_reply_74 : decode cX1_reply 74 = .ok (.iload 4, 2) := by decide +kernel
theorem dX1_reply_76 : decode cX1_reply 76 = .ok (.ireturn, 1) := by decide +kernel
set_option maxRecDepth 20000 in
theorem ggX1_afterHand_X1_ownOf : GoodIn wsX1_afterHand wsX1_ownOf := goodIn_r _ [5, 6, 7, 8, 9, 17, 18, 19, 20, 21, 22, 23, 24] (by decide +kernel) (by decide +kernel)
set_option maxRecDepth 20000 in
theorem gX1_afterHand_X1_ownOf : GoodIn wsX1_afterHand (wsV RX1 69 RX1 yX1_ownOf wsX1_ownOf) := goodIn_app (goodIn_of _ (by decide +kernel)) ggX1_afterHand_X1_ownOf
set_option maxRecDepth 20000 in
theorem ggX1_afterHand_X1_roomOf : GoodIn wsX1_afterHand wsX1_roomOf := goodIn_r _ [13, 14, 7, 8, 9, 17, 18, 19, 20, 21, 22, 23, 24] (by decide +kernel) (by decide +kernel)
set_option maxRecDepth 20000 in
theorem gX1_afterHand_X1_roomOf : GoodIn wsX1_afterHand (wsV RX1 81 RX1 yX1_roomOf wsX1_roomOf) := goodIn_app (goodIn_of _ (by decide +kernel)) ggX1_afterHand_X1_roomOf
set_option maxRecDepth 20000 in
theorem ggX1_afterHand_X6_withBehind : GoodIn wsX1_afterHand wsX6_withBehind := goodIn_r _ [16] (by decide +kernel) (by decide +kernel)
set_option maxRecDepth 20000 in
theorem gX1_afterHand_X6_withBehind_n84 : GoodIn wsX1_afterHand (wsX6_withBehind) := ggX1_afterHand_X6_withBehind
theorem dX1_afterHand_0 : decode cX1_afterHand 0 = .ok (.iload_n 2, 1) := by decide +kernel
theorem dX1_afterHand_1 : decode cX1_afterHand 1 = .ok (.aload_n 0, 1) := by decide +kernel
theorem dX1_afterHand_2 : decode cX1_afterHand 2 = .ok (.iload_n 3, 1) := by decide +kernel
theorem dX1_afterHand_3 : decode cX1_afterHand 3 = .ok (.invokevirtual 69, 3) := by decide +kernel
theorem dX1_afterHand_6 : decode cX1_afterHand 6 = .ok (.aload_n 0, 1) := by decide +kernel
theorem dX1_afterHand_7 : decode cX1_afterHand 7 = .ok (.iload_n 1, 1) := by decide +kernel
theorem dX1_afterHand_8 : decode cX1_afterHand 8 = .ok (.invokevirtual 81, 3) := by decide +kernel
theorem dX1_afterHand_11 : decode cX1_afterHand 11 = .ok (.invokestatic 84, 3) := by decide +kernel
theorem dX1_afterHand_14 : decode cX1_afterHand 14 = .ok (.ireturn, 1) := by decide +kernel
theorem dX2_init_0 : decode cX2_init 0 = .ok (.aload_n 0, 1) := by decide +kernel
theorem dX2_init_1 : decode cX2_init 1 = .ok (.invokespecial 3, 3) := by decide +kernel
theorem dX2_init_4 : decode cX2_init 4 = .ok (.aload_n 0, 1) := by decide +kernel
theorem dX2_init_5 : decode cX2_init 5 = .ok (.iconst 4, 1) := by decide +kernel
theorem dX2_init_6 : decode cX2_init 6 = .ok (.newarray .int, 2) := by decide +kernel
theorem dX2_init_8 : decode cX2_init 8 = .ok (.putfield 9, 3) := by decide +kernel
theorem dX2_init_11 : decode cX2_init 11 = .ok (.aload_n 0, 1) := by decide +kernel
theorem dX2_init_12 : decode cX2_init 12 = .ok (.iconst 4, 1) := by decide +kernel
theorem dX2_init_13 : decode cX2_init 13 = .ok (.newarray .int, 2) := by decide +kernel
theorem dX2_init_15 : decode cX2_init 15 = .ok (.putfield 15, 3) := by decide +kernel
theorem dX2_init_18 : decode cX2_init 18 = .ok (.iconst 0, 1) := by decide +kernel
theorem dX2_init_19 : decode cX2_init 19 = .ok (.istore_n 1, 1) := by decide +kernel
theorem dX2_init_20 : decode cX2_init 20 = .ok (.iload_n 1, 1) := by decide +kernel
theorem dX2_init_21 : decode cX2_init 21 = .ok (.aload_n 0, 1) := by decide +kernel
theorem dX2_init_22 : decode cX2_init 22 = .ok (.getfield 15, 3) := by decide +kernel
theorem dX2_init_25 : decode cX2_init 25 = .ok (.arraylength, 1) := by decide +kernel
theorem dX2_init_26 : decode cX2_init 26 = .ok (.if_icmp .ge 17, 3) := by decide +kernel
theorem dX2_init_29 : decode cX2_init 29 = .ok (.aload_n 0, 1) := by decide +kernel
theorem dX2_init_30 : decode cX2_init 30 = .ok (.getfield 15, 3) := by decide +kernel
theorem dX2_init_33 : decode cX2_init 33 = .ok (.iload_n 1, 1) := by decide +kernel
theorem dX2_init_34 : decode cX2_init 34 = .ok (.bipush (-9), 2) := by decide +kernel
theorem dX2_init_36 : decode cX2_init 36 = .ok (.iastore, 1) := by decide +kernel
theorem dX2_init_37 : decode cX2_init 37 = .ok (.iinc 1 1, 3) := by decide +kernel
theorem dX2_init_40 : decode cX2_init 40 = .ok (.goto (-20), 3) := by decide +kernel
theorem dX2_init_43 : decode cX2_init 43 = .ok (.aload_n 0, 1) := by decide +kernel
theorem dX2_init_44 : decode cX2_init 44 = .ok (.iconst 0, 1) := by decide +kernel
theorem dX2_init_45 : decode cX2_init 45 = .ok (.putfield 18, 3) := by decide +kernel
theorem dX2_init_48 : decode cX2_init 48 = .ok (.aload_n 0, 1) := by decide +kernel
theorem dX2_init_49 : decode cX2_init 49 = .ok (.iconst 0, 1) := by decide +kernel
theorem dX2_init_50 : decode cX2_init 50 = .ok (.putfield 22, 3) := by decide +kernel
theorem dX2_init_53 : decode cX2_init 53 = .ok (.return_, 1) := by decide +kernel
set_option maxRecDepth 20000 in
theorem ggX2_start_X1_toldOf : GoodIn wsX2_start wsX1_toldOf := goodIn_r _ [8, 9, 10, 11, 12, 7, 13, 14, 15, 16, 17, 24, 25, 26, 27, 28, 29, 30, 31] (by decide +kernel) (by decide +kernel)
set_option maxRecDepth 20000 in
theorem gX2_start_X1_toldOf : GoodIn wsX2_start (wsV RX2 26 RX1 yX1_toldOf wsX1_toldOf) := goodIn_app (goodIn_of _ (by decide +kernel)) ggX2_start_X1_toldOf
set_option maxRecDepth 20000 in
theorem ggX2_start_X6_put : GoodIn wsX2_start wsX6_put := goodIn_r _ [19] (by decide +kernel) (by decide +kernel)
set_option maxRecDepth 20000 in
theorem gX2_start_X6_put_n32 : GoodIn wsX2_start (wsX6_put) := ggX2_start_X6_put
theorem dX2_start_0 : decode cX2_start 0 = .ok (.iconst 0, 1) := by decide +kernel
theorem dX2_start_1 : decode cX2_start 1 = .ok (.istore_n 2, 1) := by decide +kernel
theorem dX2_start_2 : decode cX2_start 2 = .ok (.iload_n 2, 1) := by decide +kernel
theorem dX2_start_3 : decode cX2_start 3 = .ok (.iconst 4, 1) := by decide +kernel
theorem dX2_start_4 : decode cX2_start 4 = .ok (.if_icmp .ge 32, 3) := by decide +kernel
theorem dX2_start_7 : decode cX2_start 7 = .ok (.aload_n 0, 1) := by decide +kernel
theorem dX2_start_8 : decode cX2_start 8 = .ok (.getfield 9, 3) := by decide +kernel
theorem dX2_start_11 : decode cX2_start 11 = .ok (.iload_n 2, 1) := by decide +kernel
theorem dX2_start_12 : decode cX2_start 12 = .ok (.aload_n 1, 1) := by decide +kernel
theorem dX2_start_13 : decode cX2_start 13 = .ok (.iload_n 2, 1) := by decide +kernel
theorem dX2_start_14 : decode cX2_start 14 = .ok (.invokevirtual 26, 3) := by decide +kernel
theorem dX2_start_17 : decode cX2_start 17 = .ok (.invokestatic 32, 3) := by decide +kernel
theorem dX2_start_20 : decode cX2_start 20 = .ok (.aload_n 0, 1) := by decide +kernel
theorem dX2_start_21 : decode cX2_start 21 = .ok (.getfield 15, 3) := by decide +kernel
theorem dX2_start_24 : decode cX2_start 24 = .ok (.iload_n 2, 1) := by decide +kernel
theorem dX2_start_25 : decode cX2_start 25 = .ok (.bipush (-9), 2) := by decide +kernel
theorem dX2_start_27 : decode cX2_start 27 = .ok (.invokestatic 32, 3) := by decide +kernel
theorem dX2_start_30 : decode cX2_start 30 = .ok (.iinc 2 1, 3) := by decide +kernel
theorem dX2_start_33 : decode cX2_start 33 = .ok (.goto (-31), 3) := by decide +kernel
theorem dX2_start_36 : decode cX2_start 36 = .ok (.aload_n 0, 1) := by decide +kernel
theorem dX2_start_37 : decode cX2_start 37 = .ok (.iconst 0, 1) := by decide +kernel
theorem dX2_start_38 : decode cX2_start 38 = .ok (.putfield 18, 3) := by decide +kernel
theorem dX2_start_41 : decode cX2_start 41 = .ok (.return_, 1) := by decide +kernel
set_option maxRecDepth 20000 in
theorem ggX2_copy_X6_copyRow : GoodIn wsX2_copy wsX6_copyRow := goodIn_r _ [7] (by decide +kernel) (by decide +kernel)
set_option maxRecDepth 20000 in
theorem gX2_copy_X6_copyRow_n36 : GoodIn wsX2_copy (wsX6_copyRow) := ggX2_copy_X6_copyRow
theorem dX2_copy_0 : decode cX2_copy 0 = .ok (.aload_n 1, 1) := by decide +kernel
theorem dX2_copy_1 : decode cX2_copy 1 = .ok (.getfield 9, 3) := by decide +kernel
theorem dX2_copy_4 : decode cX2_copy 4 = .ok (.aload_n 0, 1) := by decide +kernel
theorem dX2_copy_5 : decode cX2_copy 5 = .ok (.getfield 9, 3) := by decide +kernel
theorem dX2_copy_8 : decode cX2_copy 8 = .ok (.invokestatic 36, 3) := by decide +kernel
theorem dX2_copy_11 : decode cX2_copy 11 = .ok (.aload_n 1, 1) := by decide +kernel
theorem dX2_copy_12 : decode cX2_copy 12 = .ok (.getfield 15, 3) := by decide +kernel
theorem dX2_copy_15 : decode cX2_copy 15 = .ok (.aload_n 0, 1) := by decide +kernel
theorem dX2_copy_16 : decode cX2_copy 16 = .ok (.getfield 15, 3) := by decide +kernel
theorem dX2_copy_19 : decode cX2_copy 19 = .ok (.invokestatic 36, 3) := by decide +kernel
theorem dX2_copy_22 : decode cX2_copy 22 = .ok (.aload_n 0, 1) := by decide +kernel
theorem dX2_copy_23 : decode cX2_copy 23 = .ok (.aload_n 1, 1) := by decide +kernel
theorem dX2_copy_24 : decode cX2_copy 24 = .ok (.getfield 18, 3) := by decide +kernel
theorem dX2_copy_27 : decode cX2_copy 27 = .ok (.putfield 18, 3) := by decide +kernel
theorem dX2_copy_30 : decode cX2_copy 30 = .ok (.aload_n 0, 1) := by decide +kernel
theorem dX2_copy_31 : decode cX2_copy 31 = .ok (.iconst 1, 1) := by decide +kernel
theorem dX2_copy_32 : decode cX2_copy 32 = .ok (.putfield 22, 3) := by decide +kernel
theorem dX2_copy_35 : decode cX2_copy 35 = .ok (.return_, 1) := by decide +kernel
theorem dX2_isTaken_0 : decode cX2_isTaken 0 = .ok (.aload_n 0, 1) := by decide +kernel
theorem dX2_isTaken_1 : decode cX2_isTaken 1 = .ok (.getfield 22, 3) := by decide +kernel
theorem dX2_isTaken_4 : decode cX2_isTaken 4 = .ok (.ireturn, 1) := by decide +kernel
theorem dX2_release_0 : decode cX2_release 0 = .ok (.aload_n 0, 1) := by decide +kernel
theorem dX2_release_1 : decode cX2_release 1 = .ok (.iconst 0, 1) := by decide +kernel
theorem dX2_release_2 : decode cX2_release 2 = .ok (.putfield 22, 3) := by decide +kernel
theorem dX2_release_5 : decode cX2_release 5 = .ok (.return_, 1) := by decide +kernel
theorem dX2_today_0 : decode cX2_today 0 = .ok (.aload_n 0, 1) := by decide +kernel
theorem dX2_today_1 : decode cX2_today 1 = .ok (.getfield 18, 3) := by decide +kernel
theorem dX2_today_4 : decode cX2_today 4 = .ok (.ireturn, 1) := by decide +kernel
theorem dX2_nextDay_0 : decode cX2_nextDay 0 = .ok (.aload_n 0, 1) := by decide +kernel
theorem dX2_nextDay_1 : decode cX2_nextDay 1 = .ok (.dup, 1) := by decide +kernel
theorem dX2_nextDay_2 : decode cX2_nextDay 2 = .ok (.getfield 18, 3) := by decide +kernel
theorem dX2_nextDay_5 : decode cX2_nextDay 5 = .ok (.iconst 1, 1) := by decide +kernel
theorem dX2_nextDay_6 : decode cX2_nextDay 6 = .ok (.iadd, 1) := by decide +kernel
theorem dX2_nextDay_7 : decode cX2_nextDay 7 = .ok (.putfield 18, 3) := by decide +kernel
theorem dX2_nextDay_10 : decode cX2_nextDay 10 = .ok (.return_, 1) := by decide +kernel
set_option maxRecDepth 20000 in
theorem ggX2_keptBy_X6_at : GoodIn wsX2_keptBy wsX6_at := goodIn_r _ [4] (by decide +kernel) (by decide +kernel)
set_option maxRecDepth 20000 in
theorem gX2_keptBy_X6_at_n40 : GoodIn wsX2_keptBy (wsX6_at) := ggX2_keptBy_X6_at
theorem dX2_keptBy_0 : decode cX2_keptBy 0 = .ok (.aload_n 0, 1) := by decide +kernel
theorem dX2_keptBy_1 : decode cX2_keptBy 1 = .ok (.getfield 9, 3) := by decide +kernel
theorem dX2_keptBy_4 : decode cX2_keptBy 4 = .ok (.iload_n 1, 1) := by decide +kernel
theorem dX2_keptBy_5 : decode cX2_keptBy 5 = .ok (.invokestatic 40, 3) := by decide +kernel
theorem dX2_keptBy_8 : decode cX2_keptBy 8 = .ok (.ireturn, 1) := by decide +kernel
set_option maxRecDepth 20000 in
theorem ggX2_setKept_X6_put : GoodIn wsX2_setKept wsX6_put := goodIn_r _ [4] (by decide +kernel) (by decide +kernel)
set_option maxRecDepth 20000 in
theorem gX2_setKept_X6_put_n32 : GoodIn wsX2_setKept (wsX6_put) := ggX2_setKept_X6_put
theorem dX2_setKept_0 : decode cX2_setKept 0 = .ok (.aload_n 0, 1) := by decide +kernel
theorem dX2_setKept_1 : decode cX2_setKept 1 = .ok (.getfield 9, 3) := by decide +kernel
theorem dX2_setKept_4 : decode cX2_setKept 4 = .ok (.iload_n 1, 1) := by decide +kernel
theorem dX2_setKept_5 : decode cX2_setKept 5 = .ok (.iload_n 2, 1) := by decide +kernel
theorem dX2_setKept_6 : decode cX2_setKept 6 = .ok (.invokestatic 32, 3) := by decide +kernel
theorem dX2_setKept_9 : decode cX2_setKept 9 = .ok (.return_, 1) := by decide +kernel
set_option maxRecDepth 20000 in
theorem ggX2_wearerOf_X6_at : GoodIn wsX2_wearerOf wsX6_at := goodIn_r _ [4] (by decide +kernel) (by decide +kernel)
set_option maxRecDepth 20000 in
theorem gX2_wearerOf_X6_at_n40 : GoodIn wsX2_wearerOf (wsX6_at) := ggX2_wearerOf_X6_at
theorem dX2_wearerOf_0 : decode cX2_wearerOf 0 = .ok (.aload_n 0, 1) := by decide +kernel
theorem dX2_wearerOf_1 : decode cX2_wearerOf 1 = .ok (.getfield 15, 3) := by decide +kernel
theorem dX2_wearerOf_4 : decode cX2_wearerOf 4 = .ok (.iload_n 1, 1) := by decide +kernel
theorem dX2_wearerOf_5 : decode cX2_wearerOf 5 = .ok (.invokestatic 40, 3) := by decide +kernel
theorem dX2_wearerOf_8 : decode cX2_wearerOf 8 = .ok (.ireturn, 1) := by decide +kernel
set_option maxRecDepth 20000 in
theorem ggX2_putOn_X6_put : GoodIn wsX2_putOn wsX6_put := goodIn_r _ [4] (by decide +kernel) (by decide +kernel)
set_option maxRecDepth 20000 in
theorem gX2_putOn_X6_put_n32 : GoodIn wsX2_putOn (wsX6_put) := ggX2_putOn_X6_put
theorem dX2_putOn_0 : decode cX2_putOn 0 = .ok (.aload_n 0, 1) := by decide +kernel
theorem dX2_putOn_1 : decode cX2_putOn 1 = .ok (.getfield 15, 3) := by decide +kernel
theorem dX2_putOn_4 : decode cX2_putOn 4 = .ok (.iload_n 1, 1) := by decide +kernel
theorem dX2_putOn_5 : decode cX2_putOn 5 = .ok (.iload_n 2, 1) := by decide +kernel
theorem dX2_putOn_6 : decode cX2_putOn 6 = .ok (.invokestatic 32, 3) := by decide +kernel
theorem dX2_putOn_9 : decode cX2_putOn 9 = .ok (.return_, 1) := by decide +kernel
set_option maxRecDepth 20000 in
theorem ggX2_isWorn_X2_wearerOf : GoodIn wsX2_isWorn wsX2_wearerOf := goodIn_r _ [5, 6, 7, 8, 9, 10, 11, 12, 13] (by decide +kernel) (by decide +kernel)
set_option maxRecDepth 20000 in
theorem gX2_isWorn_X2_wearerOf : GoodIn wsX2_isWorn (wsV RX2 44 RX2 yX2_wearerOf wsX2_wearerOf) := goodIn_app (goodIn_of _ (by decide +kernel)) ggX2_isWorn_X2_wearerOf
theorem dX2_isWorn_0 : decode cX2_isWorn 0 = .ok (.aload_n 0, 1) := by decide +kernel
theorem dX2_isWorn_1 : decode cX2_isWorn 1 = .ok (.iload_n 1, 1) := by decide +kernel
theorem dX2_isWorn_2 : decode cX2_isWorn 2 = .ok (.invokevirtual 44, 3) := by decide +kernel
theorem dX2_isWorn_5 : decode cX2_isWorn 5 = .ok (.bipush (-9), 2) := by decide +kernel
theorem dX2_isWorn_7 : decode cX2_isWorn 7 = .ok (.if_icmp .eq 7, 3) := by decide +kernel
theorem dX2_isWorn_10 : decode cX2_isWorn 10 = .ok (.iconst 1, 1) := by decide +kernel
theorem dX2_isWorn_11 : decode cX2_isWorn 11 = .ok (.goto 4, 3) := by decide +kernel
theorem dX2_isWorn_14 : decode cX2_isWorn 14 = .ok (.iconst 0, 1) := by decide +kernel
theorem dX2_isWorn_15 : decode cX2_isWorn 15 = .ok (.ireturn, 1) := by decide +kernel
set_option maxRecDepth 20000 in
theorem ggX2_gloveOn_X2_wearerOf : GoodIn wsX2_gloveOn wsX2_wearerOf := goodIn_r _ [5, 6, 7, 8, 9, 10, 11, 12, 13] (by decide +kernel) (by decide +kernel)
set_option maxRecDepth 20000 in
theorem gX2_gloveOn_X2_wearerOf : GoodIn wsX2_gloveOn (wsV RX2 44 RX2 yX2_wearerOf wsX2_wearerOf) := goodIn_app (goodIn_of _ (by decide +kernel)) ggX2_gloveOn_X2_wearerOf
theorem dX2_gloveOn_0 : decode cX2_gloveOn 0 = .ok (.iconst 0, 1) := by decide +kernel
theorem dX2_gloveOn_1 : decode cX2_gloveOn 1 = .ok (.istore_n 2, 1) := by decide +kernel
theorem dX2_gloveOn_2 : decode cX2_gloveOn 2 = .ok (.iload_n 2, 1) := by decide +kernel
theorem dX2_gloveOn_3 : decode cX2_gloveOn 3 = .ok (.iconst 4, 1) := by decide +kernel
theorem dX2_gloveOn_4 : decode cX2_gloveOn 4 = .ok (.if_icmp .ge 20, 3) := by decide +kernel
theorem dX2_gloveOn_7 : decode cX2_gloveOn 7 = .ok (.aload_n 0, 1) := by decide +kernel
theorem dX2_gloveOn_8 : decode cX2_gloveOn 8 = .ok (.iload_n 2, 1) := by decide +kernel
theorem dX2_gloveOn_9 : decode cX2_gloveOn 9 = .ok (.invokevirtual 44, 3) := by decide +kernel
theorem dX2_gloveOn_12 : decode cX2_gloveOn 12 = .ok (.iload_n 1, 1) := by decide +kernel
theorem dX2_gloveOn_13 : decode cX2_gloveOn 13 = .ok (.if_icmp .ne 5, 3) := by decide +kernel
theorem dX2_gloveOn_16 : decode cX2_gloveOn 16 = .ok (.iload_n 2, 1) := by decide +kernel
theorem dX2_gloveOn_17 : decode cX2_gloveOn 17 = .ok (.ireturn, 1) := by decide +kernel
theorem dX2_gloveOn_18 : decode cX2_gloveOn 18 = .ok (.iinc 2 1, 3) := by decide +kernel
theorem dX2_gloveOn_21 : decode cX2_gloveOn 21 = .ok (.goto (-19), 3) := by decide +kernel
theorem dX2_gloveOn_24 : decode cX2_gloveOn 24 = .ok (.bipush (-9), 2) := by decide +kernel
theorem dX2_gloveOn_26 : decode cX2_gloveOn 26 = .ok (.ireturn, 1) := by decide +kernel
set_option maxRecDepth 20000 in
theorem ggX2_wornBits_X2_isWorn : GoodIn wsX2_wornBits wsX2_isWorn := goodIn_r _ [5, 6, 7, 8, 4, 9, 10, 11, 12, 13, 14, 15, 16, 17] (by decide +kernel) (by decide +kernel)
set_option maxRecDepth 20000 in
theorem gX2_wornBits_X2_isWorn : GoodIn wsX2_wornBits (wsV RX2 47 RX2 yX2_isWorn wsX2_isWorn) := goodIn_app (goodIn_of _ (by decide +kernel)) ggX2_wornBits_X2_isWorn
theorem dX2_wornBits_0 : decode cX2_wornBits 0 = .ok (.iconst 0, 1) := by decide +kernel
theorem dX2_wornBits_1 : decode cX2_wornBits 1 = .ok (.istore_n 1, 1) := by decide +kernel
theorem dX2_wornBits_2 : decode cX2_wornBits 2 = .ok (.iconst 0, 1) := by decide +kernel
theorem dX2_wornBits_3 : decode cX2_wornBits 3 = .ok (.istore_n 2, 1) := by decide +kernel
theorem dX2_wornBits_4 : decode cX2_wornBits 4 = .ok (.iload_n 2, 1) := by decide +kernel
theorem dX2_wornBits_5 : decode cX2_wornBits 5 = .ok (.iconst 4, 1) := by decide +kernel
theorem dX2_wornBits_6 : decode cX2_wornBits 6 = .ok (.if_icmp .ge 23, 3) := by decide +kernel
theorem dX2_wornBits_9 : decode cX2_wornBits 9 = .ok (.aload_n 0, 1) := by decide +kernel
theorem dX2_wornBits_10 : decode cX2_wornBits 10 = .ok (.iload_n 2, 1) := by decide +kernel
theorem dX2_wornBits_11 : decode cX2_wornBits 11 = .ok (.invokevirtual 47, 3) := by decide +kernel
theorem dX2_wornBits_14 : decode cX2_wornBits 14 = .ok (.ifCond .eq 9, 3) := by decide +kernel
theorem dX2_wornBits_17 : decode cX2_wornBits 17 = .ok (.iload_n 1, 1) := by decide +kernel
theorem dX2_wornBits_18 : decode cX2_wornBits 18 = .ok (.iconst 1, 1) := by decide +kernel
theorem dX2_wornBits_19 : decode cX2_wornBits 19 = .ok (.iload_n 2, 1) := by decide +kernel
theorem dX2_wornBits_20 : decode cX2_wornBits 20 = .ok (.ishl, 1) := by decide +kernel
theorem dX2_wornBits_21 : decode cX2_wornBits 21 = .ok (.ior, 1) := by decide +kernel
theorem dX2_wornBits_22 : decode cX2_wornBits 22 = .ok (.istore_n 1, 1) := by decide +kernel
theorem dX2_wornBits_23 : decode cX2_wornBits 23 = .ok (.iinc 2 1, 3) := by decide +kernel
theorem dX2_wornBits_26 : decode cX2_wornBits 26 = .ok (.goto (-22), 3) := by decide +kernel
theorem dX2_wornBits_29 : decode cX2_wornBits 29 = .ok (.iload_n 1, 1) := by decide +kernel
theorem dX2_wornBits_30 : decode cX2_wornBits 30 = .ok (.ireturn, 1) := by decide +kernel
theorem dX3_init_0 : decode cX3_init 0 = .ok (.aload_n 0, 1) := by decide +kernel
theorem dX3_init_1 : decode cX3_init 1 = .ok (.invokespecial 3, 3) := by decide +kernel
theorem dX3_init_4 : decode cX3_init 4 = .ok (.aload_n 0, 1) := by decide +kernel
theorem dX3_init_5 : decode cX3_init 5 = .ok (.iconst 4, 1) := by decide +kernel
theorem dX3_init_6 : decode cX3_init 6 = .ok (.newarray .int, 2) := by decide +kernel
theorem dX3_init_8 : decode cX3_init 8 = .ok (.putfield 9, 3) := by decide +kernel
theorem dX3_init_11 : decode cX3_init 11 = .ok (.aload_n 0, 1) := by decide +kernel
theorem dX3_init_12 : decode cX3_init 12 = .ok (.iconst 4, 1) := by decide +kernel
theorem dX3_init_13 : decode cX3_init 13 = .ok (.newarray .int, 2) := by decide +kernel
theorem dX3_init_15 : decode cX3_init 15 = .ok (.putfield 15, 3) := by decide +kernel
theorem dX3_init_18 : decode cX3_init 18 = .ok (.aload_n 0, 1) := by decide +kernel
theorem dX3_init_19 : decode cX3_init 19 = .ok (.iconst 4, 1) := by decide +kernel
theorem dX3_init_20 : decode cX3_init 20 = .ok (.newarray .int, 2) := by decide +kernel
theorem dX3_init_22 : decode cX3_init 22 = .ok (.putfield 18, 3) := by decide +kernel
theorem dX3_init_25 : decode cX3_init 25 = .ok (.aload_n 0, 1) := by decide +kernel
theorem dX3_init_26 : decode cX3_init 26 = .ok (.iconst 0, 1) := by decide +kernel
theorem dX3_init_27 : decode cX3_init 27 = .ok (.putfield 21, 3) := by decide +kernel
theorem dX3_init_30 : decode cX3_init 30 = .ok (.return_, 1) := by decide +kernel
theorem dX3_size_0 : decode cX3_size 0 = .ok (.aload_n 0, 1) := by decide +kernel
theorem dX3_size_1 : decode cX3_size 1 = .ok (.getfield 21, 3) := by decide +kernel
theorem dX3_size_4 : decode cX3_size 4 = .ok (.ireturn, 1) := by decide +kernel
theorem dX3_clear_0 : decode cX3_clear 0 = .ok (.aload_n 0, 1) := by decide +kernel
theorem dX3_clear_1 : decode cX3_clear 1 = .ok (.iconst 0, 1) := by decide +kernel
theorem dX3_clear_2 : decode cX3_clear 2 = .ok (.putfield 21, 3) := by decide +kernel
theorem dX3_clear_5 : decode cX3_clear 5 = .ok (.return_, 1) := by decide +kernel
set_option maxRecDepth 20000 in
theorem ggX3_add_X6_put : GoodIn wsX3_add wsX6_put := goodIn_r _ [7] (by decide +kernel) (by decide +kernel)
set_option maxRecDepth 20000 in
theorem gX3_add_X6_put_n25 : GoodIn wsX3_add (wsX6_put) := ggX3_add_X6_put
theorem dX3_add_0 : decode cX3_add 0 = .ok (.aload_n 0, 1) := by decide +kernel
theorem dX3_add_1 : decode cX3_add 1 = .ok (.getfield 21, 3) := by decide +kernel
theorem dX3_add_4 : decode cX3_add 4 = .ok (.iconst 4, 1) := by decide +kernel
theorem dX3_add_5 : decode cX3_add 5 = .ok (.if_icmp .ge 49, 3) := by decide +kernel
theorem dX3_add_8 : decode cX3_add 8 = .ok (.aload_n 0, 1) := by decide +kernel
theorem dX3_add_9 : decode cX3_add 9 = .ok (.getfield 9, 3) := by decide +kernel
theorem dX3_add_12 : decode cX3_add 12 = .ok (.aload_n 0, 1) := by decide +kernel
theorem dX3_add_13 : decode cX3_add 13 = .ok (.getfield 21, 3) := by decide +kernel
theorem dX3_add_16 : decode cX3_add 16 = .ok (.iload_n 1, 1) := by decide +kernel
theorem dX3_add_17 : decode cX3_add 17 = .ok (.invokestatic 25, 3) := by decide +kernel
theorem dX3_add_20 : decode cX3_add 20 = .ok (.aload_n 0, 1) := by decide +kernel
theorem dX3_add_21 : decode cX3_add 21 = .ok (.getfield 15, 3) := by decide +kernel
theorem dX3_add_24 : decode cX3_add 24 = .ok (.aload_n 0, 1) := by decide +kernel
theorem dX3_add_25 : decode cX3_add 25 = .ok (.getfield 21, 3) := by decide +kernel
theorem dX3_add_28 : decode cX3_add 28 = .ok (.iload_n 2, 1) := by decide +kernel
theorem dX3_add_29 : decode cX3_add 29 = .ok (.invokestatic 25, 3) := by decide +kernel
theorem dX3_add_32 : decode cX3_add 32 = .ok (.aload_n 0, 1) := by decide +kernel
theorem dX3_add_33 : decode cX3_add 33 = .ok (.getfield 18, 3) := by decide +kernel
theorem dX3_add_36 : decode cX3_add 36 = .ok (.aload_n 0, 1) := by decide +kernel
theorem dX3_add_37 : decode cX3_add 37 = .ok (.getfield 21, 3) := by decide +kernel
theorem dX3_add_40 : decode cX3_add 40 = .ok (.iload_n 3, 1) := by decide +kernel
theorem dX3_add_41 : decode cX3_add 41 = .ok (.invokestatic 25, 3) := by decide +kernel
theorem dX3_add_44 : decode cX3_add 44 = .ok (.aload_n 0, 1) := by decide +kernel
theorem dX3_add_45 : decode cX3_add 45 = .ok (.dup, 1) := by decide +kernel
theorem dX3_add_46 : decode cX3_add 46 = .ok (.getfield 21, 3) := by decide +kernel
theorem dX3_add_49 : decode cX3_add 49 = .ok (.iconst 1, 1) := by decide +kernel
theorem dX3_add_50 : decode cX3_add 50 = .ok (.iadd, 1) := by decide +kernel
theorem dX3_add_51 : decode cX3_add 51 = .ok (.putfield 21, 3) := by decide +kernel
theorem dX3_add_54 : decode cX3_add 54 = .ok (.return_, 1) := by decide +kernel
set_option maxRecDepth 20000 in
theorem ggX3_personAt_X6_at : GoodIn wsX3_personAt wsX6_at := goodIn_r _ [4] (by decide +kernel) (by decide +kernel)
set_option maxRecDepth 20000 in
theorem gX3_personAt_X6_at_n29 : GoodIn wsX3_personAt (wsX6_at) := ggX3_personAt_X6_at
theorem dX3_personAt_0 : decode cX3_personAt 0 = .ok (.aload_n 0, 1) := by decide +kernel
theorem dX3_personAt_1 : decode cX3_personAt 1 = .ok (.getfield 15, 3) := by decide +kernel
theorem dX3_personAt_4 : decode cX3_personAt 4 = .ok (.iload_n 1, 1) := by decide +kernel
theorem dX3_personAt_5 : decode cX3_personAt 5 = .ok (.invokestatic 29, 3) := by decide +kernel
theorem dX3_personAt_8 : decode cX3_personAt 8 = .ok (.ireturn, 1) := by decide +kernel
set_option maxRecDepth 20000 in
theorem ggX3_doingAt_X6_at : GoodIn wsX3_doingAt wsX6_at := goodIn_r _ [4] (by decide +kernel) (by decide +kernel)
set_option maxRecDepth 20000 in
theorem gX3_doingAt_X6_at_n29 : GoodIn wsX3_doingAt (wsX6_at) := ggX3_doingAt_X6_at
theorem dX3_doingAt_0 : decode cX3_doingAt 0 = .ok (.aload_n 0, 1) := by decide +kernel
theorem dX3_doingAt_1 : decode cX3_doingAt 1 = .ok (.getfield 18, 3) := by decide +kernel
theorem dX3_doingAt_4 : decode cX3_doingAt 4 = .ok (.iload_n 1, 1) := by decide +kernel
theorem dX3_doingAt_5 : decode cX3_doingAt 5 = .ok (.invokestatic 29, 3) := by decide +kernel
theorem dX3_doingAt_8 : decode cX3_doingAt 8 = .ok (.ireturn, 1) := by decide +kernel
set_option maxRecDepth 20000 in
theorem ggX3_nextOf_X6_at : GoodIn wsX3_nextOf wsX6_at := goodIn_r _ [5] (by decide +kernel) (by decide +kernel)
set_option maxRecDepth 20000 in
theorem gX3_nextOf_X6_at_n29 : GoodIn wsX3_nextOf (wsX6_at) := ggX3_nextOf_X6_at
set_option maxRecDepth 20000 in
theorem ggX3_nextOf_X3_personAt : GoodIn wsX3_nextOf wsX3_personAt := goodIn_r _ [10, 11, 3, 4, 5, 18, 19, 20, 21] (by decide +kernel) (by decide +kernel)
set_option maxRecDepth 20000 in
theorem gX3_nextOf_X3_personAt : GoodIn wsX3_nextOf (wsV RX3 33 RX3 yX3_personAt wsX3_personAt) := goodIn_app (goodIn_of _ (by decide +kernel)) ggX3_nextOf_X3_personAt
set_option maxRecDepth 20000 in
theorem ggX3_nextOf_X1_hasPerson : GoodIn wsX3_nextOf wsX1_hasPerson := goodIn_r _ [16, 17, 22, 23, 24, 25, 26, 27, 28, 29] (by decide +kernel) (by decide +kernel)
set_option maxRecDepth 20000 in
theorem gX3_nextOf_X1_hasPerson : GoodIn wsX3_nextOf (wsV RX3 37 RX1 yX1_hasPerson wsX1_hasPerson) := goodIn_app (goodIn_of _ (by decide +kernel)) ggX3_nextOf_X1_hasPerson
theorem dX3_nextOf_0 : decode cX3_nextOf 0 = .ok (.iload_n 3, 1) := by decide +kernel
theorem dX3_nextOf_1 : decode cX3_nextOf 1 = .ok (.istore 4, 2) := by decide +kernel
theorem dX3_nextOf_3 : decode cX3_nextOf 3 = .ok (.iload 4, 2) := by decide +kernel
theorem dX3_nextOf_5 : decode cX3_nextOf 5 = .ok (.aload_n 0, 1) := by decide +kernel
theorem dX3_nextOf_6 : decode cX3_nextOf 6 = .ok (.getfield 21, 3) := by decide +kernel
theorem dX3_nextOf_9 : decode cX3_nextOf 9 = .ok (.if_icmp .ge 38, 3) := by decide +kernel
theorem dX3_nextOf_12 : decode cX3_nextOf 12 = .ok (.aload_n 0, 1) := by decide +kernel
theorem dX3_nextOf_13 : decode cX3_nextOf 13 = .ok (.getfield 9, 3) := by decide +kernel
theorem dX3_nextOf_16 : decode cX3_nextOf 16 = .ok (.iload 4, 2) := by decide +kernel
theorem dX3_nextOf_18 : decode cX3_nextOf 18 = .ok (.invokestatic 29, 3) := by decide +kernel
theorem dX3_nextOf_21 : decode cX3_nextOf 21 = .ok (.iload_n 1, 1) := by decide +kernel
theorem dX3_nextOf_22 : decode cX3_nextOf 22 = .ok (.if_icmp .ne 19, 3) := by decide +kernel
theorem dX3_nextOf_25 : decode cX3_nextOf 25 = .ok (.aload_n 2, 1) := by decide +kernel
theorem dX3_nextOf_26 : decode cX3_nextOf 26 = .ok (.aload_n 0, 1) := by decide +kernel
theorem dX3_nextOf_27 : decode cX3_nextOf 27 = .ok (.iload 4, 2) := by decide +kernel
theorem dX3_nextOf_29 : decode cX3_nextOf 29 = .ok (.invokevirtual 33, 3) := by decide +kernel
theorem dX3_nextOf_32 : decode cX3_nextOf 32 = .ok (.invokevirtual 37, 3) := by decide +kernel
theorem dX3_nextOf_35 : decode cX3_nextOf 35 = .ok (.ifCond .eq 6, 3) := by decide +kernel
theorem dX3_nextOf_38 : decode cX3_nextOf 38 = .ok (.iload 4, 2) := by decide +kernel
theorem dX3_nextOf_40 : decode cX3_nextOf 40 = .ok (.ireturn, 1) := by decide +kernel
theorem dX3_nextOf_41 : decode cX3_nextOf 41 = .ok (.iinc 4 1, 3) := by decide +kernel
theorem dX3_nextOf_44 : decode cX3_nextOf 44 = .ok (.goto (-41), 3) := by decide +kernel
theorem dX3_nextOf_47 : decode cX3_nextOf 47 = .ok (.aload_n 0, 1) := by decide +kernel
theorem dX3_nextOf_48 : decode cX3_nextOf 48 = .ok (.getfield 21, 3) := by decide +kernel
theorem dX3_nextOf_51 : decode cX3_nextOf 51 = .ok (.ireturn, 1) := by decide +kernel
theorem dX4_init_0 : decode cX4_init 0 = .ok (.aload_n 0, 1) := by decide +kernel
theorem dX4_init_1 : decode cX4_init 1 = .ok (.invokespecial 3, 3) := by decide +kernel
theorem dX4_init_4 : decode cX4_init 4 = .ok (.aload_n 0, 1) := by decide +kernel
theorem dX4_init_5 : decode cX4_init 5 = .ok (.iconst 0, 1) := by decide +kernel
theorem dX4_init_6 : decode cX4_init 6 = .ok (.putfield 9, 3) := by decide +kernel
theorem dX4_init_9 : decode cX4_init 9 = .ok (.aload_n 0, 1) := by decide +kernel
theorem dX4_init_10 : decode cX4_init 10 = .ok (.bipush (-9), 2) := by decide +kernel
theorem dX4_init_12 : decode cX4_init 12 = .ok (.putfield 15, 3) := by decide +kernel
theorem dX4_init_15 : decode cX4_init 15 = .ok (.return_, 1) := by decide +kernel
theorem dX4_start_0 : decode cX4_start 0 = .ok (.aload_n 0, 1) := by decide +kernel
theorem dX4_start_1 : decode cX4_start 1 = .ok (.iconst 0, 1) := by decide +kernel
theorem dX4_start_2 : decode cX4_start 2 = .ok (.putfield 9, 3) := by decide +kernel
theorem dX4_start_5 : decode cX4_start 5 = .ok (.aload_n 0, 1) := by decide +kernel
theorem dX4_start_6 : decode cX4_start 6 = .ok (.bipush (-9), 2) := by decide +kernel
theorem dX4_start_8 : decode cX4_start 8 = .ok (.putfield 15, 3) := by decide +kernel
theorem dX4_start_11 : decode cX4_start 11 = .ok (.return_, 1) := by decide +kernel
theorem dX4_add_0 : decode cX4_add 0 = .ok (.aload_n 0, 1) := by decide +kernel
theorem dX4_add_1 : decode cX4_add 1 = .ok (.getfield 9, 3) := by decide +kernel
theorem dX4_add_4 : decode cX4_add 4 = .ok (.ifCond .ne 8, 3) := by decide +kernel
theorem dX4_add_7 : decode cX4_add 7 = .ok (.aload_n 0, 1) := by decide +kernel
theorem dX4_add_8 : decode cX4_add 8 = .ok (.iload_n 1, 1) := by decide +kernel
theorem dX4_add_9 : decode cX4_add 9 = .ok (.putfield 15, 3) := by decide +kernel
theorem dX4_add_12 : decode cX4_add 12 = .ok (.aload_n 0, 1) := by decide +kernel
theorem dX4_add_13 : decode cX4_add 13 = .ok (.dup, 1) := by decide +kernel
theorem dX4_add_14 : decode cX4_add 14 = .ok (.getfield 9, 3) := by decide +kernel
theorem dX4_add_17 : decode cX4_add 17 = .ok (.iconst 1, 1) := by decide +kernel
theorem dX4_add_18 : decode cX4_add 18 = .ok (.iadd, 1) := by decide +kernel
theorem dX4_add_19 : decode cX4_add 19 = .ok (.putfield 9, 3) := by decide +kernel
theorem dX4_add_22 : decode cX4_add 22 = .ok (.return_, 1) := by decide +kernel
theorem dX4_told_0 : decode cX4_told 0 = .ok (.iload_n 1, 1) := by decide +kernel
theorem dX4_told_1 : decode cX4_told 1 = .ok (.ifCond .ne 10, 3) := by decide +kernel
theorem dX4_told_4 : decode cX4_told 4 = .ok (.aload_n 0, 1) := by decide +kernel
theorem dX4_told_5 : decode cX4_told 5 = .ok (.getfield 9, 3) := by decide +kernel
theorem dX4_told_8 : decode cX4_told 8 = .ok (.goto 7, 3) := by decide +kernel
theorem dX4_told_11 : decode cX4_told 11 = .ok (.aload_n 0, 1) := by decide +kernel
theorem dX4_told_12 : decode cX4_told 12 = .ok (.getfield 15, 3) := by decide +kernel
theorem dX4_told_15 : decode cX4_told 15 = .ok (.ireturn, 1) := by decide +kernel
theorem dX5_init_0 : decode cX5_init 0 = .ok (.aload_n 0, 1) := by decide +kernel
theorem dX5_init_1 : decode cX5_init 1 = .ok (.invokespecial 3, 3) := by decide +kernel
theorem dX5_init_4 : decode cX5_init 4 = .ok (.aload_n 0, 1) := by decide +kernel
theorem dX5_init_5 : decode cX5_init 5 = .ok (.bipush 40, 2) := by decide +kernel
theorem dX5_init_7 : decode cX5_init 7 = .ok (.newarray .int, 2) := by decide +kernel
theorem dX5_init_9 : decode cX5_init 9 = .ok (.putfield 9, 3) := by decide +kernel
theorem dX5_init_12 : decode cX5_init 12 = .ok (.aload_n 0, 1) := by decide +kernel
theorem dX5_init_13 : decode cX5_init 13 = .ok (.iconst 0, 1) := by decide +kernel
theorem dX5_init_14 : decode cX5_init 14 = .ok (.putfield 15, 3) := by decide +kernel
theorem dX5_init_17 : decode cX5_init 17 = .ok (.return_, 1) := by decide +kernel
theorem dX5_size_0 : decode cX5_size 0 = .ok (.aload_n 0, 1) := by decide +kernel
theorem dX5_size_1 : decode cX5_size 1 = .ok (.getfield 15, 3) := by decide +kernel
theorem dX5_size_4 : decode cX5_size 4 = .ok (.ireturn, 1) := by decide +kernel
set_option maxRecDepth 20000 in
theorem ggX5_add_X6_put : GoodIn wsX5_add wsX6_put := goodIn_r _ [5] (by decide +kernel) (by decide +kernel)
set_option maxRecDepth 20000 in
theorem gX5_add_X6_put_n19 : GoodIn wsX5_add (wsX6_put) := ggX5_add_X6_put
theorem dX5_add_0 : decode cX5_add 0 = .ok (.aload_n 0, 1) := by decide +kernel
theorem dX5_add_1 : decode cX5_add 1 = .ok (.getfield 15, 3) := by decide +kernel
theorem dX5_add_4 : decode cX5_add 4 = .ok (.bipush 40, 2) := by decide +kernel
theorem dX5_add_6 : decode cX5_add 6 = .ok (.if_icmp .ge 25, 3) := by decide +kernel
theorem dX5_add_9 : decode cX5_add 9 = .ok (.aload_n 0, 1) := by decide +kernel
theorem dX5_add_10 : decode cX5_add 10 = .ok (.getfield 9, 3) := by decide +kernel
theorem dX5_add_13 : decode cX5_add 13 = .ok (.aload_n 0, 1) := by decide +kernel
theorem dX5_add_14 : decode cX5_add 14 = .ok (.getfield 15, 3) := by decide +kernel
theorem dX5_add_17 : decode cX5_add 17 = .ok (.iload_n 1, 1) := by decide +kernel
theorem dX5_add_18 : decode cX5_add 18 = .ok (.invokestatic 19, 3) := by decide +kernel
theorem dX5_add_21 : decode cX5_add 21 = .ok (.aload_n 0, 1) := by decide +kernel
theorem dX5_add_22 : decode cX5_add 22 = .ok (.dup, 1) := by decide +kernel
theorem dX5_add_23 : decode cX5_add 23 = .ok (.getfield 15, 3) := by decide +kernel
theorem dX5_add_26 : decode cX5_add 26 = .ok (.iconst 1, 1) := by decide +kernel
theorem dX5_add_27 : decode cX5_add 27 = .ok (.iadd, 1) := by decide +kernel
theorem dX5_add_28 : decode cX5_add 28 = .ok (.putfield 15, 3) := by decide +kernel
theorem dX5_add_31 : decode cX5_add 31 = .ok (.return_, 1) := by decide +kernel
theorem dX5_clear_0 : decode cX5_clear 0 = .ok (.aload_n 0, 1) := by decide +kernel
theorem dX5_clear_1 : decode cX5_clear 1 = .ok (.iconst 0, 1) := by decide +kernel
theorem dX5_clear_2 : decode cX5_clear 2 = .ok (.putfield 15, 3) := by decide +kernel
theorem dX5_clear_5 : decode cX5_clear 5 = .ok (.return_, 1) := by decide +kernel
set_option maxRecDepth 20000 in
theorem ggX5_firstFault_X5_fits : GoodIn wsX5_firstFault wsX5_fits := goodIn_r _ [6, 7, 8, 9, 10, 11, 12, 13, 14, 15, 16, 17, 5, 18, 19, 20, 21, 22, 23, 24, 25, 26, 27, 28, 33, 34] (by decide +kernel) (by decide +kernel)
set_option maxRecDepth 20000 in
theorem gX5_firstFault_X5_fits : GoodIn wsX5_firstFault (wsV RX5 23 RX5 yX5_fits wsX5_fits) := goodIn_app (goodIn_of _ (by decide +kernel)) ggX5_firstFault_X5_fits
set_option maxRecDepth 20000 in
theorem ggX5_firstFault_X5_endsAPart : GoodIn wsX5_firstFault wsX5_endsAPart := goodIn_r _ [32, 1, 33, 34] (by decide +kernel) (by decide +kernel)
set_option maxRecDepth 20000 in
theorem gX5_firstFault_X5_endsAPart : GoodIn wsX5_firstFault (wsV RX5 27 RX5 yX5_endsAPart wsX5_endsAPart) := goodIn_app (goodIn_of _ (by decide +kernel)) ggX5_firstFault_X5_endsAPart
theorem dX5_firstFault_0 : decode cX5_firstFault 0 = .ok (.iconst 0, 1) := by decide +kernel
theorem dX5_firstFault_1 : decode cX5_firstFault 1 = .ok (.istore_n 1, 1) := by decide +kernel
theorem dX5_firstFault_2 : decode cX5_firstFault 2 = .ok (.iload_n 1, 1) := by decide +kernel
theorem dX5_firstFault_3 : decode cX5_firstFault 3 = .ok (.aload_n 0, 1) := by decide +kernel
theorem dX5_firstFault_4 : decode cX5_firstFault 4 = .ok (.getfield 15, 3) := by decide +kernel
theorem dX5_firstFault_7 : decode cX5_firstFault 7 = .ok (.if_icmp .ge 19, 3) := by decide +kernel
theorem dX5_firstFault_10 : decode cX5_firstFault 10 = .ok (.aload_n 0, 1) := by decide +kernel
theorem dX5_firstFault_11 : decode cX5_firstFault 11 = .ok (.iload_n 1, 1) := by decide +kernel
theorem dX5_firstFault_12 : decode cX5_firstFault 12 = .ok (.invokevirtual 23, 3) := by decide +kernel
theorem dX5_firstFault_15 : decode cX5_firstFault 15 = .ok (.ifCond .ne 5, 3) := by decide +kernel
theorem dX5_firstFault_18 : decode cX5_firstFault 18 = .ok (.iload_n 1, 1) := by decide +kernel
theorem dX5_firstFault_19 : decode cX5_firstFault 19 = .ok (.ireturn, 1) := by decide +kernel
theorem dX5_firstFault_20 : decode cX5_firstFault 20 = .ok (.iinc 1 1, 3) := by decide +kernel
theorem dX5_firstFault_23 : decode cX5_firstFault 23 = .ok (.goto (-21), 3) := by decide +kernel
theorem dX5_firstFault_26 : decode cX5_firstFault 26 = .ok (.aload_n 0, 1) := by decide +kernel
theorem dX5_firstFault_27 : decode cX5_firstFault 27 = .ok (.invokevirtual 27, 3) := by decide +kernel
theorem dX5_firstFault_30 : decode cX5_firstFault 30 = .ok (.ifCond .eq 8, 3) := by decide +kernel
theorem dX5_firstFault_33 : decode cX5_firstFault 33 = .ok (.bipush (-9), 2) := by decide +kernel
theorem dX5_firstFault_35 : decode cX5_firstFault 35 = .ok (.goto 7, 3) := by decide +kernel
theorem dX5_firstFault_38 : decode cX5_firstFault 38 = .ok (.aload_n 0, 1) := by decide +kernel
theorem dX5_firstFault_39 : decode cX5_firstFault 39 = .ok (.getfield 15, 3) := by decide +kernel
theorem dX5_firstFault_42 : decode cX5_firstFault 42 = .ok (.ireturn, 1) := by decide +kernel
theorem dX5_endsAPart_0 : decode cX5_endsAPart 0 = .ok (.aload_n 0, 1) := by decide +kernel
theorem dX5_endsAPart_1 : decode cX5_endsAPart 1 = .ok (.getfield 15, 3) := by decide +kernel
theorem dX5_endsAPart_4 : decode cX5_endsAPart 4 = .ok (.ifCond .le 18, 3) := by decide +kernel
theorem dX5_endsAPart_7 : decode cX5_endsAPart 7 = .ok (.aload_n 0, 1) := by decide +kernel
theorem dX5_endsAPart_8 : decode cX5_endsAPart 8 = .ok (.getfield 15, 3) := by decide +kernel
theorem dX5_endsAPart_11 : decode cX5_endsAPart 11 = .ok (.iconst 1, 1) := by decide +kernel
theorem dX5_endsAPart_12 : decode cX5_endsAPart 12 = .ok (.isub, 1) := by decide +kernel
theorem dX5_endsAPart_13 : decode cX5_endsAPart 13 = .ok (.iconst 4, 1) := by decide +kernel
theorem dX5_endsAPart_14 : decode cX5_endsAPart 14 = .ok (.irem, 1) := by decide +kernel
theorem dX5_endsAPart_15 : decode cX5_endsAPart 15 = .ok (.ifCond .ne 7, 3) := by decide +kernel
theorem dX5_endsAPart_18 : decode cX5_endsAPart 18 = .ok (.iconst 1, 1) := by decide +kernel
theorem dX5_endsAPart_19 : decode cX5_endsAPart 19 = .ok (.goto 4, 3) := by decide +kernel
theorem dX5_endsAPart_22 : decode cX5_endsAPart 22 = .ok (.iconst 0, 1) := by decide +kernel
theorem dX5_endsAPart_23 : decode cX5_endsAPart 23 = .ok (.ireturn, 1) := by decide +kernel
set_option maxRecDepth 20000 in
theorem ggX5_fits_X6_at : GoodIn wsX5_fits wsX6_at := goodIn_r _ [8] (by decide +kernel) (by decide +kernel)
set_option maxRecDepth 20000 in
theorem gX5_fits_X6_at_n31 : GoodIn wsX5_fits (wsX6_at) := ggX5_fits_X6_at
set_option maxRecDepth 20000 in
theorem ggX5_fits_X5_partsAhead : GoodIn wsX5_fits wsX5_partsAhead := goodIn_r _ [13, 1, 6, 7, 8, 24, 25] (by decide +kernel) (by decide +kernel)
set_option maxRecDepth 20000 in
theorem gX5_fits_X5_partsAhead : GoodIn wsX5_fits (wsV RX5 35 RX5 yX5_partsAhead wsX5_partsAhead) := goodIn_app (goodIn_of _ (by decide +kernel)) ggX5_fits_X5_partsAhead
set_option maxRecDepth 20000 in
theorem ggX5_fits_X5_isPerson : GoodIn wsX5_fits wsX5_isPerson := goodIn_r _ [17, 1, 6, 7, 8, 24, 25] (by decide +kernel) (by decide +kernel)
set_option maxRecDepth 20000 in
theorem gX5_fits_X5_isPerson : GoodIn wsX5_fits (wsV RX5 39 RX5 yX5_isPerson wsX5_isPerson) := goodIn_app (goodIn_of _ (by decide +kernel)) ggX5_fits_X5_isPerson
set_option maxRecDepth 20000 in
theorem ggX5_fits_X5_figureAt : GoodIn wsX5_fits wsX5_figureAt := goodIn_r _ [21, 1, 6, 7, 8, 24, 25] (by decide +kernel) (by decide +kernel)
set_option maxRecDepth 20000 in
theorem gX5_fits_X5_figureAt : GoodIn wsX5_fits (wsV RX5 54 RX5 yX5_figureAt wsX5_figureAt) := goodIn_app (goodIn_of _ (by decide +kernel)) ggX5_fits_X5_figureAt
set_option maxRecDepth 20000 in
theorem ggX5_fits_X6_within : GoodIn wsX5_fits wsX6_within := goodIn_r _ [23] (by decide +kernel) (by decide +kernel)
set_option maxRecDepth 20000 in
theorem gX5_fits_X6_within_n58 : GoodIn wsX5_fits (wsX6_within) := ggX5_fits_X6_within
theorem dX5_fits_0 : decode cX5_fits 0 = .ok (.aload_n 0, 1) := by decide +kernel
theorem dX5_fits_1 : decode cX5_fits 1 = .ok (.getfield 9, 3) := by decide +kernel
theorem dX5_fits_4 : decode cX5_fits 4 = .ok (.iload_n 1, 1) := by decide +kernel
theorem dX5_fits_5 : decode cX5_fits 5 = .ok (.invokestatic 31, 3) := by decide +kernel
theorem dX5_fits_8 : decode cX5_fits 8 = .ok (.istore_n 2, 1) := by decide +kernel
theorem dX5_fits_9 : decode cX5_fits 9 = .ok (.iload_n 1, 1) := by decide +kernel
theorem dX5_fits_10 : decode cX5_fits 10 = .ok (.ifCond .ne 15, 3) := by decide +kernel
theorem dX5_fits_13 : decode cX5_fits 13 = .ok (.iload_n 2, 1) := by decide +kernel
theorem dX5_fits_14 : decode cX5_fits 14 = .ok (.bipush 71, 2) := by decide +kernel
theorem dX5_fits_16 : decode cX5_fits 16 = .ok (.if_icmp .ne 7, 3) := by decide +kernel
theorem dX5_fits_19 : decode cX5_fits 19 = .ok (.iconst 1, 1) := by decide +kernel
theorem dX5_fits_20 : decode cX5_fits 20 = .ok (.goto 4, 3) := by decide +kernel
theorem dX5_fits_23 : decode cX5_fits 23 = .ok (.iconst 0, 1) := by decide +kernel
theorem dX5_fits_24 : decode cX5_fits 24 = .ok (.ireturn, 1) := by decide +kernel
theorem dX5_fits_25 : decode cX5_fits 25 = .ok (.iload_n 1, 1) := by decide +kernel
theorem dX5_fits_26 : decode cX5_fits 26 = .ok (.iconst 1, 1) := by decide +kernel
theorem dX5_fits_27 : decode cX5_fits 27 = .ok (.isub, 1) := by decide +kernel
theorem dX5_fits_28 : decode cX5_fits 28 = .ok (.iconst 4, 1) := by decide +kernel
theorem dX5_fits_29 : decode cX5_fits 29 = .ok (.irem, 1) := by decide +kernel
theorem dX5_fits_30 : decode cX5_fits 30 = .ok (.istore_n 3, 1) := by decide +kernel
theorem dX5_fits_31 : decode cX5_fits 31 = .ok (.iload_n 3, 1) := by decide +kernel
theorem dX5_fits_32 : decode cX5_fits 32 = .ok (.ifCond .ne 43, 3) := by decide +kernel
theorem dX5_fits_35 : decode cX5_fits 35 = .ok (.iload_n 2, 1) := by decide +kernel
theorem dX5_fits_36 : decode cX5_fits 36 = .ok (.bipush 80, 2) := by decide +kernel
theorem dX5_fits_38 : decode cX5_fits 38 = .ok (.if_icmp .ne 14, 3) := by decide +kernel
theorem dX5_fits_41 : decode cX5_fits 41 = .ok (.aload_n 0, 1) := by decide +kernel
theorem dX5_fits_42 : decode cX5_fits 42 = .ok (.iload_n 1, 1) := by decide +kernel
theorem dX5_fits_43 : decode cX5_fits 43 = .ok (.bipush 80, 2) := by decide +kernel
theorem dX5_fits_45 : decode cX5_fits 45 = .ok (.invokevirtual 35, 3) := by decide +kernel
theorem dX5_fits_48 : decode cX5_fits 48 = .ok (.iconst 5, 1) := by decide +kernel
theorem dX5_fits_49 : decode cX5_fits 49 = .ok (.if_icmp .lt 20, 3) := by decide +kernel
theorem dX5_fits_52 : decode cX5_fits 52 = .ok (.iload_n 2, 1) := by decide +kernel
theorem dX5_fits_53 : decode cX5_fits 53 = .ok (.bipush 76, 2) := by decide +kernel
theorem dX5_fits_55 : decode cX5_fits 55 = .ok (.if_icmp .ne 18, 3) := by decide +kernel
theorem dX5_fits_58 : decode cX5_fits 58 = .ok (.aload_n 0, 1) := by decide +kernel
theorem dX5_fits_59 : decode cX5_fits 59 = .ok (.iload_n 1, 1) := by decide +kernel
theorem dX5_fits_60 : decode cX5_fits 60 = .ok (.bipush 76, 2) := by decide +kernel
theorem dX5_fits_62 : decode cX5_fits 62 = .ok (.invokevirtual 35, 3) := by decide +kernel
theorem dX5_fits_65 : decode cX5_fits 65 = .ok (.iconst 4, 1) := by decide +kernel
theorem dX5_fits_66 : decode cX5_fits 66 = .ok (.if_icmp .ge 7, 3) := by decide +kernel
theorem dX5_fits_69 : decode cX5_fits 69 = .ok (.iconst 1, 1) := by decide +kernel
theorem dX5_fits_70 : decode cX5_fits 70 = .ok (.goto 4, 3) := by decide +kernel
theorem dX5_fits_73 : decode cX5_fits 73 = .ok (.iconst 0, 1) := by decide +kernel
theorem dX5_fits_74 : decode cX5_fits 74 = .ok (.ireturn, 1) := by decide +kernel
theorem dX5_fits_75 : decode cX5_fits 75 = .ok (.aload_n 0, 1) := by decide +kernel
theorem dX5_fits_76 : decode cX5_fits 76 = .ok (.iload_n 1, 1) := by decide +kernel
theorem dX5_fits_77 : decode cX5_fits 77 = .ok (.iload_n 3, 1) := by decide +kernel
theorem dX5_fits_78 : decode cX5_fits 78 = .ok (.isub, 1) := by decide +kernel
theorem dX5_fits_79 : decode cX5_fits 79 = .ok (.invokevirtual 39, 3) := by decide +kernel
theorem dX5_fits_82 : decode cX5_fits 82 = .ok (.istore 4, 2) := by decide +kernel
theorem dX5_fits_84 : decode cX5_fits 84 = .ok (.iload 4, 2) := by decide +kernel
theorem dX5_fits_86 : decode cX5_fits 86 = .ok (.ifCond .eq 9, 3) := by decide +kernel
theorem dX5_fits_89 : decode cX5_fits 89 = .ok (.getstatic 42, 3) := by decide +kernel
theorem dX5_fits_92 : decode cX5_fits 92 = .ok (.goto 6, 3) := by decide +kernel
theorem dX5_fits_95 : decode cX5_fits 95 = .ok (.getstatic 45, 3) := by decide +kernel
theorem dX5_fits_98 : decode cX5_fits 98 = .ok (.iload_n 3, 1) := by decide +kernel
theorem dX5_fits_99 : decode cX5_fits 99 = .ok (.iconst 1, 1) := by decide +kernel
theorem dX5_fits_100 : decode cX5_fits 100 = .ok (.isub, 1) := by decide +kernel
theorem dX5_fits_101 : decode cX5_fits 101 = .ok (.invokestatic 31, 3) := by decide +kernel
theorem dX5_fits_104 : decode cX5_fits 104 = .ok (.istore 5, 2) := by decide +kernel
theorem dX5_fits_106 : decode cX5_fits 106 = .ok (.iload 4, 2) := by decide +kernel
theorem dX5_fits_108 : decode cX5_fits 108 = .ok (.ifCond .eq 9, 3) := by decide +kernel
theorem dX5_fits_111 : decode cX5_fits 111 = .ok (.getstatic 48, 3) := by decide +kernel
theorem dX5_fits_114 : decode cX5_fits 114 = .ok (.goto 6, 3) := by decide +kernel
theorem dX5_fits_117 : decode cX5_fits 117 = .ok (.getstatic 51, 3) := by decide +kernel
theorem dX5_fits_120 : decode cX5_fits 120 = .ok (.iload_n 3, 1) := by decide +kernel
theorem dX5_fits_121 : decode cX5_fits 121 = .ok (.iconst 1, 1) := by decide +kernel
theorem dX5_fits_122 : decode cX5_fits 122 = .ok (.isub, 1) := by decide +kernel
theorem dX5_fits_123 : decode cX5_fits 123 = .ok (.invokestatic 31, 3) := by decide +kernel
theorem dX5_fits_126 : decode cX5_fits 126 = .ok (.istore 6, 2) := by decide +kernel
theorem dX5_fits_128 : decode cX5_fits 128 = .ok (.aload_n 0, 1) := by decide +kernel
theorem dX5_fits_129 : decode cX5_fits 129 = .ok (.iload_n 1, 1) := by decide +kernel
theorem dX5_fits_130 : decode cX5_fits 130 = .ok (.invokevirtual 54, 3) := by decide +kernel
theorem dX5_fits_133 : decode cX5_fits 133 = .ok (.iload 5, 2) := by decide +kernel
theorem dX5_fits_135 : decode cX5_fits 135 = .ok (.iload 6, 2) := by decide +kernel
theorem dX5_fits_137 : decode cX5_fits 137 = .ok (.invokestatic 58, 3) := by decide +kernel
theorem dX5_fits_140 : decode cX5_fits 140 = .ok (.ireturn, 1) := by decide +kernel
set_option maxRecDepth 20000 in
theorem ggX5_partsAhead_X6_at : GoodIn wsX5_partsAhead wsX6_at := goodIn_r _ [4] (by decide +kernel) (by decide +kernel)
set_option maxRecDepth 20000 in
theorem gX5_partsAhead_X6_at_n31 : GoodIn wsX5_partsAhead (wsX6_at) := ggX5_partsAhead_X6_at
theorem dX5_partsAhead_0 : decode cX5_partsAhead 0 = .ok (.iconst 0, 1) := by decide +kernel
theorem dX5_partsAhead_1 : decode cX5_partsAhead 1 = .ok (.istore_n 3, 1) := by decide +kernel
theorem dX5_partsAhead_2 : decode cX5_partsAhead 2 = .ok (.iconst 1, 1) := by decide +kernel
theorem dX5_partsAhead_3 : decode cX5_partsAhead 3 = .ok (.istore 4, 2) := by decide +kernel
theorem dX5_partsAhead_5 : decode cX5_partsAhead 5 = .ok (.iload 4, 2) := by decide +kernel
theorem dX5_partsAhead_7 : decode cX5_partsAhead 7 = .ok (.iload_n 1, 1) := by decide +kernel
theorem dX5_partsAhead_8 : decode cX5_partsAhead 8 = .ok (.if_icmp .ge 25, 3) := by decide +kernel
theorem dX5_partsAhead_11 : decode cX5_partsAhead 11 = .ok (.aload_n 0, 1) := by decide +kernel
theorem dX5_partsAhead_12 : decode cX5_partsAhead 12 = .ok (.getfield 9, 3) := by decide +kernel
theorem dX5_partsAhead_15 : decode cX5_partsAhead 15 = .ok (.iload 4, 2) := by decide +kernel
theorem dX5_partsAhead_17 : decode cX5_partsAhead 17 = .ok (.invokestatic 31, 3) := by decide +kernel
theorem dX5_partsAhead_20 : decode cX5_partsAhead 20 = .ok (.iload_n 2, 1) := by decide +kernel
theorem dX5_partsAhead_21 : decode cX5_partsAhead 21 = .ok (.if_icmp .ne 6, 3) := by decide +kernel
theorem dX5_partsAhead_24 : decode cX5_partsAhead 24 = .ok (.iinc 3 1, 3) := by decide +kernel
theorem dX5_partsAhead_27 : decode cX5_partsAhead 27 = .ok (.iinc 4 4, 3) := by decide +kernel
theorem dX5_partsAhead_30 : decode cX5_partsAhead 30 = .ok (.goto (-25), 3) := by decide +kernel
theorem dX5_partsAhead_33 : decode cX5_partsAhead 33 = .ok (.iload_n 3, 1) := by decide +kernel
theorem dX5_partsAhead_34 : decode cX5_partsAhead 34 = .ok (.ireturn, 1) := by decide +kernel
set_option maxRecDepth 20000 in
theorem ggX5_isPerson_X6_at : GoodIn wsX5_isPerson wsX6_at := goodIn_r _ [4] (by decide +kernel) (by decide +kernel)
set_option maxRecDepth 20000 in
theorem gX5_isPerson_X6_at_n31 : GoodIn wsX5_isPerson (wsX6_at) := ggX5_isPerson_X6_at
theorem dX5_isPerson_0 : decode cX5_isPerson 0 = .ok (.aload_n 0, 1) := by decide +kernel
theorem dX5_isPerson_1 : decode cX5_isPerson 1 = .ok (.getfield 9, 3) := by decide +kernel
theorem dX5_isPerson_4 : decode cX5_isPerson 4 = .ok (.iload_n 1, 1) := by decide +kernel
theorem dX5_isPerson_5 : decode cX5_isPerson 5 = .ok (.invokestatic 31, 3) := by decide +kernel
theorem dX5_isPerson_8 : decode cX5_isPerson 8 = .ok (.bipush 80, 2) := by decide +kernel
theorem dX5_isPerson_10 : decode cX5_isPerson 10 = .ok (.if_icmp .ne 7, 3) := by decide +kernel
theorem dX5_isPerson_13 : decode cX5_isPerson 13 = .ok (.iconst 1, 1) := by decide +kernel
theorem dX5_isPerson_14 : decode cX5_isPerson 14 = .ok (.goto 4, 3) := by decide +kernel
theorem dX5_isPerson_17 : decode cX5_isPerson 17 = .ok (.iconst 0, 1) := by decide +kernel
theorem dX5_isPerson_18 : decode cX5_isPerson 18 = .ok (.ireturn, 1) := by decide +kernel
set_option maxRecDepth 20000 in
theorem ggX5_figureAt_X6_at : GoodIn wsX5_figureAt wsX6_at := goodIn_r _ [4] (by decide +kernel) (by decide +kernel)
set_option maxRecDepth 20000 in
theorem gX5_figureAt_X6_at_n31 : GoodIn wsX5_figureAt (wsX6_at) := ggX5_figureAt_X6_at
theorem dX5_figureAt_0 : decode cX5_figureAt 0 = .ok (.aload_n 0, 1) := by decide +kernel
theorem dX5_figureAt_1 : decode cX5_figureAt 1 = .ok (.getfield 9, 3) := by decide +kernel
theorem dX5_figureAt_4 : decode cX5_figureAt 4 = .ok (.iload_n 1, 1) := by decide +kernel
theorem dX5_figureAt_5 : decode cX5_figureAt 5 = .ok (.invokestatic 31, 3) := by decide +kernel
theorem dX5_figureAt_8 : decode cX5_figureAt 8 = .ok (.bipush 48, 2) := by decide +kernel
theorem dX5_figureAt_10 : decode cX5_figureAt 10 = .ok (.isub, 1) := by decide +kernel
theorem dX5_figureAt_11 : decode cX5_figureAt 11 = .ok (.ireturn, 1) := by decide +kernel
set_option maxRecDepth 20000 in
theorem ggX6_init_X5_init : GoodIn wsX6_init wsX5_init := goodIn_r _ [33, 34, 2, 3, 35, 36, 37, 81, 82] (by decide +kernel) (by decide +kernel)
set_option maxRecDepth 20000 in
theorem gX6_init_X5_init : GoodIn wsX6_init (wsX5_init) := ggX6_init_X5_init
set_option maxRecDepth 20000 in
theorem ggX6_init_X1_init : GoodIn wsX6_init wsX1_init := goodIn_r _ [40, 41, 2, 3, 35, 42, 43, 44, 45, 46, 47, 48, 49, 92, 93, 94, 95, 96, 97, 98, 99] (by decide +kernel) (by decide +kernel)
set_option maxRecDepth 20000 in
theorem gX6_init_X1_init : GoodIn wsX6_init (wsX1_init) := ggX6_init_X1_init
set_option maxRecDepth 20000 in
theorem ggX6_init_X2_init : GoodIn wsX6_init wsX2_init := goodIn_r _ [52, 53, 2, 3, 35, 54, 55, 56, 57, 100, 101, 102, 103] (by decide +kernel) (by decide +kernel)
set_option maxRecDepth 20000 in
theorem gX6_init_X2_init : GoodIn wsX6_init (wsX2_init) := ggX6_init_X2_init
set_option maxRecDepth 20000 in
theorem ggX6_init_X0_init : GoodIn wsX6_init wsX0_init := goodIn_r _ [60, 61, 2, 3, 62, 63, 13, 14, 64, 65, 66, 51, 52, 53, 35, 54, 55, 56, 57, 104, 105, 106, 100, 101, 102, 103] (by decide +kernel) (by decide +kernel)
set_option maxRecDepth 20000 in
theorem gX6_init_X0_init : GoodIn wsX6_init (wsX0_init) := ggX6_init_X0_init
set_option maxRecDepth 20000 in
theorem ggX6_init_X3_init : GoodIn wsX6_init wsX3_init := goodIn_r _ [69, 70, 2, 3, 35, 71, 72, 73, 74, 107, 108, 109, 110] (by decide +kernel) (by decide +kernel)
set_option maxRecDepth 20000 in
theorem gX6_init_X3_init : GoodIn wsX6_init (wsX3_init) := ggX6_init_X3_init
set_option maxRecDepth 20000 in
theorem ggX6_init_X4_init : GoodIn wsX6_init wsX4_init := goodIn_r _ [77, 78, 2, 3, 79, 80, 111, 112] (by decide +kernel) (by decide +kernel)
set_option maxRecDepth 20000 in
theorem gX6_init_X4_init : GoodIn wsX6_init (wsX4_init) := ggX6_init_X4_init
theorem dX6_init_0 : decode cX6_init 0 = .ok (.aload_n 0, 1) := by decide +kernel
theorem dX6_init_1 : decode cX6_init 1 = .ok (.invokespecial 1, 3) := by decide +kernel
theorem dX6_init_4 : decode cX6_init 4 = .ok (.aload_n 0, 1) := by decide +kernel
theorem dX6_init_5 : decode cX6_init 5 = .ok (.new 7, 3) := by decide +kernel
theorem dX6_init_8 : decode cX6_init 8 = .ok (.dup, 1) := by decide +kernel
theorem dX6_init_9 : decode cX6_init 9 = .ok (.invokespecial 9, 3) := by decide +kernel
theorem dX6_init_12 : decode cX6_init 12 = .ok (.putfield 10, 3) := by decide +kernel
theorem dX6_init_15 : decode cX6_init 15 = .ok (.aload_n 0, 1) := by decide +kernel
theorem dX6_init_16 : decode cX6_init 16 = .ok (.new 16, 3) := by decide +kernel
theorem dX6_init_19 : decode cX6_init 19 = .ok (.dup, 1) := by decide +kernel
theorem dX6_init_20 : decode cX6_init 20 = .ok (.invokespecial 18, 3) := by decide +kernel
theorem dX6_init_23 : decode cX6_init 23 = .ok (.putfield 19, 3) := by decide +kernel
theorem dX6_init_26 : decode cX6_init 26 = .ok (.aload_n 0, 1) := by decide +kernel
theorem dX6_init_27 : decode cX6_init 27 = .ok (.new 23, 3) := by decide +kernel
theorem dX6_init_30 : decode cX6_init 30 = .ok (.dup, 1) := by decide +kernel
theorem dX6_init_31 : decode cX6_init 31 = .ok (.invokespecial 25, 3) := by decide +kernel
theorem dX6_init_34 : decode cX6_init 34 = .ok (.putfield 26, 3) := by decide +kernel
theorem dX6_init_37 : decode cX6_init 37 = .ok (.aload_n 0, 1) := by decide +kernel
theorem dX6_init_38 : decode cX6_init 38 = .ok (.new 23, 3) := by decide +kernel
theorem dX6_init_41 : decode cX6_init 41 = .ok (.dup, 1) := by decide +kernel
theorem dX6_init_42 : decode cX6_init 42 = .ok (.invokespecial 25, 3) := by decide +kernel
theorem dX6_init_45 : decode cX6_init 45 = .ok (.putfield 30, 3) := by decide +kernel
theorem dX6_init_48 : decode cX6_init 48 = .ok (.aload_n 0, 1) := by decide +kernel
theorem dX6_init_49 : decode cX6_init 49 = .ok (.new 33, 3) := by decide +kernel
theorem dX6_init_52 : decode cX6_init 52 = .ok (.dup, 1) := by decide +kernel
theorem dX6_init_53 : decode cX6_init 53 = .ok (.invokespecial 35, 3) := by decide +kernel
theorem dX6_init_56 : decode cX6_init 56 = .ok (.putfield 36, 3) := by decide +kernel
theorem dX6_init_59 : decode cX6_init 59 = .ok (.aload_n 0, 1) := by decide +kernel
theorem dX6_init_60 : decode cX6_init 60 = .ok (.new 40, 3) := by decide +kernel
theorem dX6_init_63 : decode cX6_init 63 = .ok (.dup, 1) := by decide +kernel
theorem dX6_init_64 : decode cX6_init 64 = .ok (.invokespecial 42, 3) := by decide +kernel
theorem dX6_init_67 : decode cX6_init 67 = .ok (.putfield 43, 3) := by decide +kernel
theorem dX6_init_70 : decode cX6_init 70 = .ok (.aload_n 0, 1) := by decide +kernel
theorem dX6_init_71 : decode cX6_init 71 = .ok (.new 47, 3) := by decide +kernel
theorem dX6_init_74 : decode cX6_init 74 = .ok (.dup, 1) := by decide +kernel
theorem dX6_init_75 : decode cX6_init 75 = .ok (.invokespecial 49, 3) := by decide +kernel
theorem dX6_init_78 : decode cX6_init 78 = .ok (.putfield 50, 3) := by decide +kernel
theorem dX6_init_81 : decode cX6_init 81 = .ok (.aload_n 0, 1) := by decide +kernel
theorem dX6_init_82 : decode cX6_init 82 = .ok (.iconst 2, 1) := by decide +kernel
theorem dX6_init_83 : decode cX6_init 83 = .ok (.anewarray 23, 3) := by decide +kernel
theorem dX6_init_86 : decode cX6_init 86 = .ok (.putfield 54, 3) := by decide +kernel
theorem dX6_init_89 : decode cX6_init 89 = .ok (.iconst 0, 1) := by decide +kernel
theorem dX6_init_90 : decode cX6_init 90 = .ok (.istore_n 1, 1) := by decide +kernel
theorem dX6_init_91 : decode cX6_init 91 = .ok (.iload_n 1, 1) := by decide +kernel
theorem dX6_init_92 : decode cX6_init 92 = .ok (.aload_n 0, 1) := by decide +kernel
theorem dX6_init_93 : decode cX6_init 93 = .ok (.getfield 54, 3) := by decide +kernel
theorem dX6_init_96 : decode cX6_init 96 = .ok (.arraylength, 1) := by decide +kernel
theorem dX6_init_97 : decode cX6_init 97 = .ok (.if_icmp .ge 22, 3) := by decide +kernel
theorem dX6_init_100 : decode cX6_init 100 = .ok (.aload_n 0, 1) := by decide +kernel
theorem dX6_init_101 : decode cX6_init 101 = .ok (.getfield 54, 3) := by decide +kernel
theorem dX6_init_104 : decode cX6_init 104 = .ok (.iload_n 1, 1) := by decide +kernel
theorem dX6_init_105 : decode cX6_init 105 = .ok (.new 23, 3) := by decide +kernel
theorem dX6_init_108 : decode cX6_init 108 = .ok (.dup, 1) := by decide +kernel
theorem dX6_init_109 : decode cX6_init 109 = .ok (.invokespecial 25, 3) := by decide +kernel
theorem dX6_init_112 : decode cX6_init 112 = .ok (.aastore, 1) := by decide +kernel
theorem dX6_init_113 : decode cX6_init 113 = .ok (.iinc 1 1, 3) := by decide +kernel
theorem dX6_init_116 : decode cX6_init 116 = .ok (.goto (-25), 3) := by decide +kernel
theorem dX6_init_119 : decode cX6_init 119 = .ok (.aload_n 0, 1) := by decide +kernel
theorem dX6_init_120 : decode cX6_init 120 = .ok (.lconst 0, 1) := by decide +kernel
theorem dX6_init_121 : decode cX6_init 121 = .ok (.putfield 58, 3) := by decide +kernel
theorem dX6_init_124 : decode cX6_init 124 = .ok (.return_, 1) := by decide +kernel
set_option maxRecDepth 20000 in
theorem ggX6_write_X6_within : GoodIn wsX6_write wsX6_within := goodIn_r _ [5] (by decide +kernel) (by decide +kernel)
set_option maxRecDepth 20000 in
theorem gX6_write_X6_within : GoodIn wsX6_write (va_wsS RX6 62 yX6_within wsX6_within) := goodIn_app (goodIn_of _ (by decide +kernel)) ggX6_write_X6_within
set_option maxRecDepth 20000 in
theorem ggX6_write_X5_size : GoodIn wsX6_write wsX5_size := goodIn_r _ [10, 11, 28, 29] (by decide +kernel) (by decide +kernel)
set_option maxRecDepth 20000 in
theorem gX6_write_X5_size : GoodIn wsX6_write (wsV RX6 66 RX5 yX5_size wsX5_size) := goodIn_app (goodIn_of _ (by decide +kernel)) ggX6_write_X5_size
set_option maxRecDepth 20000 in
theorem ggX6_write_X5_add : GoodIn wsX6_write wsX5_add := goodIn_r _ [15, 11, 16, 17, 4, 18, 28, 29] (by decide +kernel) (by decide +kernel)
set_option maxRecDepth 20000 in
theorem gX6_write_X5_add : GoodIn wsX6_write (wsV RX6 70 RX5 yX5_add wsX5_add) := goodIn_app (goodIn_of _ (by decide +kernel)) ggX6_write_X5_add
theorem dX6_write_0 : decode cX6_write 0 = .ok (.iload_n 1, 1) := by decide +kernel
theorem dX6_write_1 : decode cX6_write 1 = .ok (.iconst 0, 1) := by decide +kernel
theorem dX6_write_2 : decode cX6_write 2 = .ok (.sipush 255, 3) := by decide +kernel
theorem dX6_write_5 : decode cX6_write 5 = .ok (.invokestatic 62, 3) := by decide +kernel
theorem dX6_write_8 : decode cX6_write 8 = .ok (.ifCond .ne 6, 3) := by decide +kernel
theorem dX6_write_11 : decode cX6_write 11 = .ok (.bipush (-2), 2) := by decide +kernel
theorem dX6_write_13 : decode cX6_write 13 = .ok (.ireturn, 1) := by decide +kernel
theorem dX6_write_14 : decode cX6_write 14 = .ok (.aload_n 0, 1) := by decide +kernel
theorem dX6_write_15 : decode cX6_write 15 = .ok (.getfield 10, 3) := by decide +kernel
theorem dX6_write_18 : decode cX6_write 18 = .ok (.invokevirtual 66, 3) := by decide +kernel
theorem dX6_write_21 : decode cX6_write 21 = .ok (.bipush 40, 2) := by decide +kernel
theorem dX6_write_23 : decode cX6_write 23 = .ok (.if_icmp .lt 6, 3) := by decide +kernel
theorem dX6_write_26 : decode cX6_write 26 = .ok (.bipush (-4), 2) := by decide +kernel
theorem dX6_write_28 : decode cX6_write 28 = .ok (.ireturn, 1) := by decide +kernel
theorem dX6_write_29 : decode cX6_write 29 = .ok (.aload_n 0, 1) := by decide +kernel
theorem dX6_write_30 : decode cX6_write 30 = .ok (.getfield 10, 3) := by decide +kernel
theorem dX6_write_33 : decode cX6_write 33 = .ok (.iload_n 1, 1) := by decide +kernel
theorem dX6_write_34 : decode cX6_write 34 = .ok (.invokevirtual 70, 3) := by decide +kernel
theorem dX6_write_37 : decode cX6_write 37 = .ok (.aload_n 0, 1) := by decide +kernel
theorem dX6_write_38 : decode cX6_write 38 = .ok (.getfield 10, 3) := by decide +kernel
theorem dX6_write_41 : decode cX6_write 41 = .ok (.invokevirtual 66, 3) := by decide +kernel
theorem dX6_write_44 : decode cX6_write 44 = .ok (.ireturn, 1) := by decide +kernel
set_option maxRecDepth 20000 in
theorem ggX6_wipe_X5_size : GoodIn wsX6_wipe wsX5_size := goodIn_r _ [6, 7, 21, 22] (by decide +kernel) (by decide +kernel)
set_option maxRecDepth 20000 in
theorem gX6_wipe_X5_size : GoodIn wsX6_wipe (wsV RX6 66 RX5 yX5_size wsX5_size) := goodIn_app (goodIn_of _ (by decide +kernel)) ggX6_wipe_X5_size
set_option maxRecDepth 20000 in
theorem ggX6_wipe_X5_clear : GoodIn wsX6_wipe wsX5_clear := goodIn_r _ [11, 7, 21, 22] (by decide +kernel) (by decide +kernel)
set_option maxRecDepth 20000 in
theorem gX6_wipe_X5_clear : GoodIn wsX6_wipe (wsV RX6 74 RX5 yX5_clear wsX5_clear) := goodIn_app (goodIn_of _ (by decide +kernel)) ggX6_wipe_X5_clear
theorem dX6_wipe_0 : decode cX6_wipe 0 = .ok (.aload_n 0, 1) := by decide +kernel
theorem dX6_wipe_1 : decode cX6_wipe 1 = .ok (.getfield 10, 3) := by decide +kernel
theorem dX6_wipe_4 : decode cX6_wipe 4 = .ok (.invokevirtual 66, 3) := by decide +kernel
theorem dX6_wipe_7 : decode cX6_wipe 7 = .ok (.istore_n 1, 1) := by decide +kernel
theorem dX6_wipe_8 : decode cX6_wipe 8 = .ok (.aload_n 0, 1) := by decide +kernel
theorem dX6_wipe_9 : decode cX6_wipe 9 = .ok (.getfield 10, 3) := by decide +kernel
theorem dX6_wipe_12 : decode cX6_wipe 12 = .ok (.invokevirtual 74, 3) := by decide +kernel
theorem dX6_wipe_15 : decode cX6_wipe 15 = .ok (.iload_n 1, 1) := by decide +kernel
theorem dX6_wipe_16 : decode cX6_wipe 16 = .ok (.ireturn, 1) := by decide +kernel
set_option maxRecDepth 20000 in
theorem ggX6_fault_X5_firstFault : GoodIn wsX6_fault wsX5_firstFault := goodIn_r _ [6, 7, 8, 9, 10, 5, 11, 12, 13, 14, 15, 16, 17, 18, 19, 20, 21, 22, 23, 24, 25, 26, 27, 28, 29, 30, 31, 32, 33, 34, 35, 36, 37, 47, 48] (by decide +kernel) (by decide +kernel)
set_option maxRecDepth 20000 in
theorem gX6_fault_X5_firstFault : GoodIn wsX6_fault (wsV RX6 77 RX5 yX5_firstFault wsX5_firstFault) := goodIn_app (goodIn_of _ (by decide +kernel)) ggX6_fault_X5_firstFault
theorem dX6_fault_0 : decode cX6_fault 0 = .ok (.aload_n 0, 1) := by decide +kernel
theorem dX6_fault_1 : decode cX6_fault 1 = .ok (.getfield 10, 3) := by decide +kernel
theorem dX6_fault_4 : decode cX6_fault 4 = .ok (.invokevirtual 77, 3) := by decide +kernel
theorem dX6_fault_7 : decode cX6_fault 7 = .ok (.ireturn, 1) := by decide +kernel
set_option maxRecDepth 20000 in
theorem ggX6_desk_X5_firstFault : GoodIn wsX6_desk wsX5_firstFault := goodIn_r _ [9, 10, 11, 12, 13, 8, 14, 15, 16, 17, 18, 19, 20, 21, 22, 23, 24, 25, 26, 27, 28, 29, 30, 31, 32, 33, 34, 35, 36, 37, 38, 39, 40, 119, 120] (by decide +kernel) (by decide +kernel)
set_option maxRecDepth 20000 in
theorem gX6_desk_X5_firstFault : GoodIn wsX6_desk (wsV RX6 77 RX5 yX5_firstFault wsX5_firstFault) := goodIn_app (goodIn_of _ (by decide +kernel)) ggX6_desk_X5_firstFault
set_option maxRecDepth 20000 in
theorem ggX6_desk_X1_read : GoodIn wsX6_desk wsX1_read := goodIn_r _ [45, 46, 47, 48, 49, 50, 8, 51, 10, 52, 28, 29, 30, 15, 20, 21, 22, 53, 54, 55, 44, 56, 57, 58, 59, 60, 32, 33, 34, 61, 62, 63, 64, 65, 66, 67, 68, 69, 121, 122, 123, 124, 125, 126, 127, 128, 119, 120] (by decide +kernel) (by decide +kernel)
set_option maxRecDepth 20000 in
theorem gX6_desk_X1_read : GoodIn wsX6_desk (wsV RX6 80 RX1 yX1_read wsX1_read) := goodIn_app (goodIn_of _ (by decide +kernel)) ggX6_desk_X1_read
set_option maxRecDepth 20000 in
theorem ggX6_desk_X2_start : GoodIn wsX6_desk wsX2_start := goodIn_r _ [74, 75, 76, 77, 78, 79, 80, 44, 81, 69, 82, 83, 84, 85, 47, 20, 21, 22, 61, 62, 129, 130, 131, 132, 121, 122, 123, 124, 125, 126, 127, 128] (by decide +kernel) (by decide +kernel)
set_option maxRecDepth 20000 in
theorem gX6_desk_X2_start : GoodIn wsX6_desk (wsV RX6 84 RX2 yX2_start wsX2_start) := goodIn_app (goodIn_of _ (by decide +kernel)) ggX6_desk_X2_start
set_option maxRecDepth 20000 in
theorem ggX6_desk_X0_clear : GoodIn wsX6_desk wsX0_clear := goodIn_r _ [90, 91, 133, 134, 135] (by decide +kernel) (by decide +kernel)
set_option maxRecDepth 20000 in
theorem gX6_desk_X0_clear : GoodIn wsX6_desk (wsV RX6 88 RX0 yX0_clear wsX0_clear) := goodIn_app (goodIn_of _ (by decide +kernel)) ggX6_desk_X0_clear
set_option maxRecDepth 20000 in
theorem ggX6_desk_X6_forgetSlots : GoodIn wsX6_desk wsX6_forgetSlots := goodIn_r _ [95, 96, 97, 98, 99, 73, 100, 101, 110, 111, 112, 113, 114, 115, 116, 117, 118, 129, 130, 131, 132] (by decide +kernel) (by decide +kernel)
set_option maxRecDepth 20000 in
theorem gX6_desk_X6_forgetSlots : GoodIn wsX6_desk (wsV RX6 89 RX6 yX6_forgetSlots wsX6_forgetSlots) := goodIn_app (goodIn_of _ (by decide +kernel)) ggX6_desk_X6_forgetSlots
set_option maxRecDepth 20000 in
theorem ggX6_desk_X1_people : GoodIn wsX6_desk wsX1_people := goodIn_r _ [105, 46, 121, 122, 123, 124, 125, 126, 127, 128] (by decide +kernel) (by decide +kernel)
set_option maxRecDepth 20000 in
theorem gX6_desk_X1_people : GoodIn wsX6_desk (wsV RX6 92 RX1 yX1_people wsX1_people) := goodIn_app (goodIn_of _ (by decide +kernel)) ggX6_desk_X1_people
set_option maxRecDepth 20000 in
theorem ggX6_desk_X1_gloves : GoodIn wsX6_desk wsX1_gloves := goodIn_r _ [109, 47, 121, 122, 123, 124, 125, 126, 127, 128] (by decide +kernel) (by decide +kernel)
set_option maxRecDepth 20000 in
theorem gX6_desk_X1_gloves : GoodIn wsX6_desk (wsV RX6 95 RX1 yX1_gloves wsX1_gloves) := goodIn_app (goodIn_of _ (by decide +kernel)) ggX6_desk_X1_gloves
theorem dX6_desk_0 : decode cX6_desk 0 = .ok (.aload_n 0, 1) := by decide +kernel
theorem dX6_desk_1 : decode cX6_desk 1 = .ok (.getfield 10, 3) := by decide +kernel
theorem dX6_desk_4 : decode cX6_desk 4 = .ok (.invokevirtual 77, 3) := by decide +kernel
theorem dX6_desk_7 : decode cX6_desk 7 = .ok (.bipush (-9), 2) := by decide +kernel
theorem dX6_desk_9 : decode cX6_desk 9 = .ok (.if_icmp .eq 6, 3) := by decide +kernel
theorem dX6_desk_12 : decode cX6_desk 12 = .ok (.bipush (-3), 2) := by decide +kernel
theorem dX6_desk_14 : decode cX6_desk 14 = .ok (.ireturn, 1) := by decide +kernel
theorem dX6_desk_15 : decode cX6_desk 15 = .ok (.aload_n 0, 1) := by decide +kernel
theorem dX6_desk_16 : decode cX6_desk 16 = .ok (.getfield 19, 3) := by decide +kernel
theorem dX6_desk_19 : decode cX6_desk 19 = .ok (.aload_n 0, 1) := by decide +kernel
theorem dX6_desk_20 : decode cX6_desk 20 = .ok (.getfield 10, 3) := by decide +kernel
theorem dX6_desk_23 : decode cX6_desk 23 = .ok (.invokevirtual 80, 3) := by decide +kernel
theorem dX6_desk_26 : decode cX6_desk 26 = .ok (.aload_n 0, 1) := by decide +kernel
theorem dX6_desk_27 : decode cX6_desk 27 = .ok (.getfield 26, 3) := by decide +kernel
theorem dX6_desk_30 : decode cX6_desk 30 = .ok (.aload_n 0, 1) := by decide +kernel
theorem dX6_desk_31 : decode cX6_desk 31 = .ok (.getfield 19, 3) := by decide +kernel
theorem dX6_desk_34 : decode cX6_desk 34 = .ok (.invokevirtual 84, 3) := by decide +kernel
theorem dX6_desk_37 : decode cX6_desk 37 = .ok (.aload_n 0, 1) := by decide +kernel
theorem dX6_desk_38 : decode cX6_desk 38 = .ok (.getfield 36, 3) := by decide +kernel
theorem dX6_desk_41 : decode cX6_desk 41 = .ok (.invokevirtual 88, 3) := by decide +kernel
theorem dX6_desk_44 : decode cX6_desk 44 = .ok (.aload_n 0, 1) := by decide +kernel
theorem dX6_desk_45 : decode cX6_desk 45 = .ok (.invokevirtual 89, 3) := by decide +kernel
theorem dX6_desk_48 : decode cX6_desk 48 = .ok (.bipush 10, 2) := by decide +kernel
theorem dX6_desk_50 : decode cX6_desk 50 = .ok (.aload_n 0, 1) := by decide +kernel
theorem dX6_desk_51 : decode cX6_desk 51 = .ok (.getfield 19, 3) := by decide +kernel
theorem dX6_desk_54 : decode cX6_desk 54 = .ok (.invokevirtual 92, 3) := by decide +kernel
theorem dX6_desk_57 : decode cX6_desk 57 = .ok (.imul, 1) := by decide +kernel
theorem dX6_desk_58 : decode cX6_desk 58 = .ok (.aload_n 0, 1) := by decide +kernel
theorem dX6_desk_59 : decode cX6_desk 59 = .ok (.getfield 19, 3) := by decide +kernel
theorem dX6_desk_62 : decode cX6_desk 62 = .ok (.invokevirtual 95, 3) := by decide +kernel
theorem dX6_desk_65 : decode cX6_desk 65 = .ok (.iadd, 1) := by decide +kernel
theorem dX6_desk_66 : decode cX6_desk 66 = .ok (.ireturn, 1) := by decide +kernel
set_option maxRecDepth 20000 in
theorem ggX6_about_X1_people : GoodIn wsX6_about wsX1_people := goodIn_r _ [10, 11, 66, 67, 68, 69, 70, 71, 72, 73] (by decide +kernel) (by decide +kernel)
set_option maxRecDepth 20000 in
theorem gX6_about_X1_people : GoodIn wsX6_about (wsV RX6 92 RX1 yX1_people wsX1_people) := goodIn_app (goodIn_of _ (by decide +kernel)) ggX6_about_X1_people
set_option maxRecDepth 20000 in
theorem ggX6_about_X1_gloves : GoodIn wsX6_about wsX1_gloves := goodIn_r _ [15, 16, 66, 67, 68, 69, 70, 71, 72, 73] (by decide +kernel) (by decide +kernel)
set_option maxRecDepth 20000 in
theorem gX6_about_X1_gloves : GoodIn wsX6_about (wsV RX6 95 RX1 yX1_gloves wsX1_gloves) := goodIn_app (goodIn_of _ (by decide +kernel)) ggX6_about_X1_gloves
set_option maxRecDepth 20000 in
theorem ggX6_about_X2_today : GoodIn wsX6_about wsX2_today := goodIn_r _ [21, 22, 74, 75, 76, 77] (by decide +kernel) (by decide +kernel)
set_option maxRecDepth 20000 in
theorem gX6_about_X2_today : GoodIn wsX6_about (wsV RX6 98 RX2 yX2_today wsX2_today) := goodIn_app (goodIn_of _ (by decide +kernel)) ggX6_about_X2_today
set_option maxRecDepth 20000 in
theorem ggX6_about_X2_wornBits : GoodIn wsX6_about wsX2_wornBits := goodIn_r _ [26, 27, 28, 29, 20, 30, 31, 32, 33, 34, 35, 36, 37, 38, 74, 75, 76, 77] (by decide +kernel) (by decide +kernel)
set_option maxRecDepth 20000 in
theorem gX6_about_X2_wornBits : GoodIn wsX6_about (wsV RX6 101 RX2 yX2_wornBits wsX2_wornBits) := goodIn_app (goodIn_of _ (by decide +kernel)) ggX6_about_X2_wornBits
set_option maxRecDepth 20000 in
theorem ggX6_about_X0_size : GoodIn wsX6_about wsX0_size := goodIn_r _ [43, 44, 78, 79, 80] (by decide +kernel) (by decide +kernel)
set_option maxRecDepth 20000 in
theorem gX6_about_X0_size : GoodIn wsX6_about (wsV RX6 104 RX0 yX0_size wsX0_size) := goodIn_app (goodIn_of _ (by decide +kernel)) ggX6_about_X0_size
set_option maxRecDepth 20000 in
theorem ggX6_about_X3_size : GoodIn wsX6_about wsX3_size := goodIn_r _ [49, 50, 81, 82, 83, 84] (by decide +kernel) (by decide +kernel)
set_option maxRecDepth 20000 in
theorem gX6_about_X3_size : GoodIn wsX6_about (wsV RX6 105 RX3 yX3_size wsX3_size) := goodIn_app (goodIn_of _ (by decide +kernel)) ggX6_about_X3_size
set_option maxRecDepth 20000 in
theorem ggX6_about_X5_size : GoodIn wsX6_about wsX5_size := goodIn_r _ [55, 56, 85, 86] (by decide +kernel) (by decide +kernel)
set_option maxRecDepth 20000 in
theorem gX6_about_X5_size : GoodIn wsX6_about (wsV RX6 66 RX5 yX5_size wsX5_size) := goodIn_app (goodIn_of _ (by decide +kernel)) ggX6_about_X5_size
theorem dX6_about_0 : decode cX6_about 0 = .ok (.iload_n 1, 1) := by decide +kernel
theorem dX6_about_1 : decode cX6_about 1 = .ok (.tableswitch 99 0 6 #[43, 51, 59, 67, 75, 83, 91], 43) := by decide +kernel
theorem dX6_about_44 : decode cX6_about 44 = .ok (.aload_n 0, 1) := by decide +kernel
theorem dX6_about_45 : decode cX6_about 45 = .ok (.getfield 19, 3) := by decide +kernel
theorem dX6_about_48 : decode cX6_about 48 = .ok (.invokevirtual 92, 3) := by decide +kernel
theorem dX6_about_51 : decode cX6_about 51 = .ok (.ireturn, 1) := by decide +kernel
theorem dX6_about_52 : decode cX6_about 52 = .ok (.aload_n 0, 1) := by decide +kernel
theorem dX6_about_53 : decode cX6_about 53 = .ok (.getfield 19, 3) := by decide +kernel
theorem dX6_about_56 : decode cX6_about 56 = .ok (.invokevirtual 95, 3) := by decide +kernel
theorem dX6_about_59 : decode cX6_about 59 = .ok (.ireturn, 1) := by decide +kernel
theorem dX6_about_60 : decode cX6_about 60 = .ok (.aload_n 0, 1) := by decide +kernel
theorem dX6_about_61 : decode cX6_about 61 = .ok (.getfield 26, 3) := by decide +kernel
theorem dX6_about_64 : decode cX6_about 64 = .ok (.invokevirtual 98, 3) := by decide +kernel
theorem dX6_about_67 : decode cX6_about 67 = .ok (.ireturn, 1) := by decide +kernel
theorem dX6_about_68 : decode cX6_about 68 = .ok (.aload_n 0, 1) := by decide +kernel
theorem dX6_about_69 : decode cX6_about 69 = .ok (.getfield 26, 3) := by decide +kernel
theorem dX6_about_72 : decode cX6_about 72 = .ok (.invokevirtual 101, 3) := by decide +kernel
theorem dX6_about_75 : decode cX6_about 75 = .ok (.ireturn, 1) := by decide +kernel
theorem dX6_about_76 : decode cX6_about 76 = .ok (.aload_n 0, 1) := by decide +kernel
theorem dX6_about_77 : decode cX6_about 77 = .ok (.getfield 36, 3) := by decide +kernel
theorem dX6_about_80 : decode cX6_about 80 = .ok (.invokevirtual 104, 3) := by decide +kernel
theorem dX6_about_83 : decode cX6_about 83 = .ok (.ireturn, 1) := by decide +kernel
theorem dX6_about_84 : decode cX6_about 84 = .ok (.aload_n 0, 1) := by decide +kernel
theorem dX6_about_85 : decode cX6_about 85 = .ok (.getfield 43, 3) := by decide +kernel
theorem dX6_about_88 : decode cX6_about 88 = .ok (.invokevirtual 105, 3) := by decide +kernel
theorem dX6_about_91 : decode cX6_about 91 = .ok (.ireturn, 1) := by decide +kernel
theorem dX6_about_92 : decode cX6_about 92 = .ok (.aload_n 0, 1) := by decide +kernel
theorem dX6_about_93 : decode cX6_about 93 = .ok (.getfield 10, 3) := by decide +kernel
theorem dX6_about_96 : decode cX6_about 96 = .ok (.invokevirtual 66, 3) := by decide +kernel
theorem dX6_about_99 : decode cX6_about 99 = .ok (.ireturn, 1) := by decide +kernel
theorem dX6_about_100 : decode cX6_about 100 = .ok (.bipush (-2), 2) := by decide +kernel
theorem dX6_about_102 : decode cX6_about 102 = .ok (.ireturn, 1) := by decide +kernel
set_option maxRecDepth 20000 in
theorem ggX6_person_X1_hasPerson : GoodIn wsX6_person wsX1_hasPerson := goodIn_r _ [7, 8, 46, 47, 48, 49, 50, 51, 52, 53] (by decide +kernel) (by decide +kernel)
set_option maxRecDepth 20000 in
theorem gX6_person_X1_hasPerson : GoodIn wsX6_person (wsV RX6 106 RX1 yX1_hasPerson wsX1_hasPerson) := goodIn_app (goodIn_of _ (by decide +kernel)) ggX6_person_X1_hasPerson
set_option maxRecDepth 20000 in
theorem ggX6_person_X1_ownOf : GoodIn wsX6_person wsX1_ownOf := goodIn_r _ [12, 13, 14, 15, 16, 46, 47, 48, 49, 50, 51, 52, 53] (by decide +kernel) (by decide +kernel)
set_option maxRecDepth 20000 in
theorem gX6_person_X1_ownOf : GoodIn wsX6_person (wsV RX6 110 RX1 yX1_ownOf wsX1_ownOf) := goodIn_app (goodIn_of _ (by decide +kernel)) ggX6_person_X1_ownOf
set_option maxRecDepth 20000 in
theorem ggX6_person_X1_dearTo : GoodIn wsX6_person wsX1_dearTo := goodIn_r _ [20, 21, 14, 15, 16, 46, 47, 48, 49, 50, 51, 52, 53] (by decide +kernel) (by decide +kernel)
set_option maxRecDepth 20000 in
theorem gX6_person_X1_dearTo : GoodIn wsX6_person (wsV RX6 114 RX1 yX1_dearTo wsX1_dearTo) := goodIn_app (goodIn_of _ (by decide +kernel)) ggX6_person_X1_dearTo
set_option maxRecDepth 20000 in
theorem ggX6_person_X1_worthTo : GoodIn wsX6_person wsX1_worthTo := goodIn_r _ [25, 26, 14, 15, 16, 46, 47, 48, 49, 50, 51, 52, 53] (by decide +kernel) (by decide +kernel)
set_option maxRecDepth 20000 in
theorem gX6_person_X1_worthTo : GoodIn wsX6_person (wsV RX6 117 RX1 yX1_worthTo wsX1_worthTo) := goodIn_app (goodIn_of _ (by decide +kernel)) ggX6_person_X1_worthTo
set_option maxRecDepth 20000 in
theorem ggX6_person_X2_gloveOn : GoodIn wsX6_person wsX2_gloveOn := goodIn_r _ [31, 32, 33, 34, 30, 35, 36, 14, 15, 16, 54, 55, 56, 57] (by decide +kernel) (by decide +kernel)
set_option maxRecDepth 20000 in
theorem gX6_person_X2_gloveOn : GoodIn wsX6_person (wsV RX6 120 RX2 yX2_gloveOn wsX2_gloveOn) := goodIn_app (goodIn_of _ (by decide +kernel)) ggX6_person_X2_gloveOn
theorem dX6_person_0 : decode cX6_person 0 = .ok (.aload_n 0, 1) := by decide +kernel
theorem dX6_person_1 : decode cX6_person 1 = .ok (.getfield 19, 3) := by decide +kernel
theorem dX6_person_4 : decode cX6_person 4 = .ok (.iload_n 1, 1) := by decide +kernel
theorem dX6_person_5 : decode cX6_person 5 = .ok (.invokevirtual 106, 3) := by decide +kernel
theorem dX6_person_8 : decode cX6_person 8 = .ok (.ifCond .ne 5, 3) := by decide +kernel
theorem dX6_person_11 : decode cX6_person 11 = .ok (.iconst (-1), 1) := by decide +kernel
theorem dX6_person_12 : decode cX6_person 12 = .ok (.ireturn, 1) := by decide +kernel
theorem dX6_person_13 : decode cX6_person 13 = .ok (.iload_n 2, 1) := by decide +kernel
theorem dX6_person_14 : decode cX6_person 14 = .ok (.tableswitch 66 0 3 #[30, 39, 48, 57], 30) := by decide +kernel
theorem dX6_person_44 : decode cX6_person 44 = .ok (.aload_n 0, 1) := by decide +kernel
theorem dX6_person_45 : decode cX6_person 45 = .ok (.getfield 19, 3) := by decide +kernel
theorem dX6_person_48 : decode cX6_person 48 = .ok (.iload_n 1, 1) := by decide +kernel
theorem dX6_person_49 : decode cX6_person 49 = .ok (.invokevirtual 110, 3) := by decide +kernel
theorem dX6_person_52 : decode cX6_person 52 = .ok (.ireturn, 1) := by decide +kernel
theorem dX6_person_53 : decode cX6_person 53 = .ok (.aload_n 0, 1) := by decide +kernel
theorem dX6_person_54 : decode cX6_person 54 = .ok (.getfield 19, 3) := by decide +kernel
theorem dX6_person_57 : decode cX6_person 57 = .ok (.iload_n 1, 1) := by decide +kernel
theorem dX6_person_58 : decode cX6_person 58 = .ok (.invokevirtual 114, 3) := by decide +kernel
theorem dX6_person_61 : decode cX6_person 61 = .ok (.ireturn, 1) := by decide +kernel
theorem dX6_person_62 : decode cX6_person 62 = .ok (.aload_n 0, 1) := by decide +kernel
theorem dX6_person_63 : decode cX6_person 63 = .ok (.getfield 19, 3) := by decide +kernel
theorem dX6_person_66 : decode cX6_person 66 = .ok (.iload_n 1, 1) := by decide +kernel
theorem dX6_person_67 : decode cX6_person 67 = .ok (.invokevirtual 117, 3) := by decide +kernel
theorem dX6_person_70 : decode cX6_person 70 = .ok (.ireturn, 1) := by decide +kernel
theorem dX6_person_71 : decode cX6_person 71 = .ok (.aload_n 0, 1) := by decide +kernel
theorem dX6_person_72 : decode cX6_person 72 = .ok (.getfield 26, 3) := by decide +kernel
theorem dX6_person_75 : decode cX6_person 75 = .ok (.iload_n 1, 1) := by decide +kernel
theorem dX6_person_76 : decode cX6_person 76 = .ok (.invokevirtual 120, 3) := by decide +kernel
theorem dX6_person_79 : decode cX6_person 79 = .ok (.ireturn, 1) := by decide +kernel
theorem dX6_person_80 : decode cX6_person 80 = .ok (.bipush (-2), 2) := by decide +kernel
theorem dX6_person_82 : decode cX6_person 82 = .ok (.ireturn, 1) := by decide +kernel
set_option maxRecDepth 20000 in
theorem ggX6_glove_X1_hasGlove : GoodIn wsX6_glove wsX1_hasGlove := goodIn_r _ [7, 8, 45, 46, 47, 48, 49, 50, 51, 52] (by decide +kernel) (by decide +kernel)
set_option maxRecDepth 20000 in
theorem gX6_glove_X1_hasGlove : GoodIn wsX6_glove (wsV RX6 123 RX1 yX1_hasGlove wsX1_hasGlove) := goodIn_app (goodIn_of _ (by decide +kernel)) ggX6_glove_X1_hasGlove
set_option maxRecDepth 20000 in
theorem ggX6_glove_X1_roomOf : GoodIn wsX6_glove wsX1_roomOf := goodIn_r _ [12, 13, 14, 15, 16, 45, 46, 47, 48, 49, 50, 51, 52] (by decide +kernel) (by decide +kernel)
set_option maxRecDepth 20000 in
theorem gX6_glove_X1_roomOf : GoodIn wsX6_glove (wsV RX6 126 RX1 yX1_roomOf wsX1_roomOf) := goodIn_app (goodIn_of _ (by decide +kernel)) ggX6_glove_X1_roomOf
set_option maxRecDepth 20000 in
theorem ggX6_glove_X1_kindOf : GoodIn wsX6_glove wsX1_kindOf := goodIn_r _ [20, 21, 14, 15, 16, 45, 46, 47, 48, 49, 50, 51, 52] (by decide +kernel) (by decide +kernel)
set_option maxRecDepth 20000 in
theorem gX6_glove_X1_kindOf : GoodIn wsX6_glove (wsV RX6 129 RX1 yX1_kindOf wsX1_kindOf) := goodIn_app (goodIn_of _ (by decide +kernel)) ggX6_glove_X1_kindOf
set_option maxRecDepth 20000 in
theorem ggX6_glove_X2_keptBy : GoodIn wsX6_glove wsX2_keptBy := goodIn_r _ [26, 27, 14, 15, 16, 53, 54, 55, 56] (by decide +kernel) (by decide +kernel)
set_option maxRecDepth 20000 in
theorem gX6_glove_X2_keptBy : GoodIn wsX6_glove (wsV RX6 132 RX2 yX2_keptBy wsX2_keptBy) := goodIn_app (goodIn_of _ (by decide +kernel)) ggX6_glove_X2_keptBy
set_option maxRecDepth 20000 in
theorem ggX6_glove_X6_figuresIn : GoodIn wsX6_glove wsX6_figuresIn := goodIn_r _ [30] (by decide +kernel) (by decide +kernel)
set_option maxRecDepth 20000 in
theorem gX6_glove_X6_figuresIn : GoodIn wsX6_glove (va_wsS RX6 135 yX6_figuresIn wsX6_figuresIn) := goodIn_app (goodIn_of _ (by decide +kernel)) ggX6_glove_X6_figuresIn
set_option maxRecDepth 20000 in
theorem ggX6_glove_X2_wearerOf : GoodIn wsX6_glove wsX2_wearerOf := goodIn_r _ [34, 35, 14, 15, 16, 53, 54, 55, 56] (by decide +kernel) (by decide +kernel)
set_option maxRecDepth 20000 in
theorem gX6_glove_X2_wearerOf : GoodIn wsX6_glove (wsV RX6 138 RX2 yX2_wearerOf wsX2_wearerOf) := goodIn_app (goodIn_of _ (by decide +kernel)) ggX6_glove_X2_wearerOf
theorem dX6_glove_0 : decode cX6_glove 0 = .ok (.aload_n 0, 1) := by decide +kernel
theorem dX6_glove_1 : decode cX6_glove 1 = .ok (.getfield 19, 3) := by decide +kernel
theorem dX6_glove_4 : decode cX6_glove 4 = .ok (.iload_n 1, 1) := by decide +kernel
theorem dX6_glove_5 : decode cX6_glove 5 = .ok (.invokevirtual 123, 3) := by decide +kernel
theorem dX6_glove_8 : decode cX6_glove 8 = .ok (.ifCond .ne 5, 3) := by decide +kernel
theorem dX6_glove_11 : decode cX6_glove 11 = .ok (.iconst (-1), 1) := by decide +kernel
theorem dX6_glove_12 : decode cX6_glove 12 = .ok (.ireturn, 1) := by decide +kernel
theorem dX6_glove_13 : decode cX6_glove 13 = .ok (.iload_n 2, 1) := by decide +kernel
theorem dX6_glove_14 : decode cX6_glove 14 = .ok (.tableswitch 82 0 4 #[34, 43, 52, 64, 73], 34) := by decide +kernel
theorem dX6_glove_48 : decode cX6_glove 48 = .ok (.aload_n 0, 1) := by decide +kernel
theorem dX6_glove_49 : decode cX6_glove 49 = .ok (.getfield 19, 3) := by decide +kernel
theorem dX6_glove_52 : decode cX6_glove 52 = .ok (.iload_n 1, 1) := by decide +kernel
theorem dX6_glove_53 : decode cX6_glove 53 = .ok (.invokevirtual 126, 3) := by decide +kernel
theorem dX6_glove_56 : decode cX6_glove 56 = .ok (.ireturn, 1) := by decide +kernel
theorem dX6_glove_57 : decode cX6_glove 57 = .ok (.aload_n 0, 1) := by decide +kernel
theorem dX6_glove_58 : decode cX6_glove 58 = .ok (.getfield 19, 3) := by decide +kernel
theorem dX6_glove_61 : decode cX6_glove 61 = .ok (.iload_n 1, 1) := by decide +kernel
theorem dX6_glove_62 : decode cX6_glove 62 = .ok (.invokevirtual 129, 3) := by decide +kernel
theorem dX6_glove_65 : decode cX6_glove 65 = .ok (.ireturn, 1) := by decide +kernel
theorem dX6_glove_66 : decode cX6_glove 66 = .ok (.aload_n 0, 1) := by decide +kernel
theorem dX6_glove_67 : decode cX6_glove 67 = .ok (.getfield 26, 3) := by decide +kernel
theorem dX6_glove_70 : decode cX6_glove 70 = .ok (.iload_n 1, 1) := by decide +kernel
theorem dX6_glove_71 : decode cX6_glove 71 = .ok (.invokevirtual 132, 3) := by decide +kernel
theorem dX6_glove_74 : decode cX6_glove 74 = .ok (.invokestatic 135, 3) := by decide +kernel
theorem dX6_glove_77 : decode cX6_glove 77 = .ok (.ireturn, 1) := by decide +kernel
theorem dX6_glove_78 : decode cX6_glove 78 = .ok (.aload_n 0, 1) := by decide +kernel
theorem dX6_glove_79 : decode cX6_glove 79 = .ok (.getfield 26, 3) := by decide +kernel
theorem dX6_glove_82 : decode cX6_glove 82 = .ok (.iload_n 1, 1) := by decide +kernel
theorem dX6_glove_83 : decode cX6_glove 83 = .ok (.invokevirtual 132, 3) := by decide +kernel
theorem dX6_glove_86 : decode cX6_glove 86 = .ok (.ireturn, 1) := by decide +kernel
theorem dX6_glove_87 : decode cX6_glove 87 = .ok (.aload_n 0, 1) := by decide +kernel
theorem dX6_glove_88 : decode cX6_glove 88 = .ok (.getfield 26, 3) := by decide +kernel
theorem dX6_glove_91 : decode cX6_glove 91 = .ok (.iload_n 1, 1) := by decide +kernel
theorem dX6_glove_92 : decode cX6_glove 92 = .ok (.invokevirtual 138, 3) := by decide +kernel
theorem dX6_glove_95 : decode cX6_glove 95 = .ok (.ireturn, 1) := by decide +kernel
theorem dX6_glove_96 : decode cX6_glove 96 = .ok (.bipush (-2), 2) := by decide +kernel
theorem dX6_glove_98 : decode cX6_glove 98 = .ok (.ireturn, 1) := by decide +kernel
set_option maxRecDepth 20000 in
theorem ggX6_wear_X1_hasGlove : GoodIn wsX6_wear wsX1_hasGlove := goodIn_r _ [8, 9, 90, 91, 92, 93, 94, 95, 96, 97] (by decide +kernel) (by decide +kernel)
set_option maxRecDepth 20000 in
theorem gX6_wear_X1_hasGlove : GoodIn wsX6_wear (wsV RX6 123 RX1 yX1_hasGlove wsX1_hasGlove) := goodIn_app (goodIn_of _ (by decide +kernel)) ggX6_wear_X1_hasGlove
set_option maxRecDepth 20000 in
theorem ggX6_wear_X1_hasPerson : GoodIn wsX6_wear wsX1_hasPerson := goodIn_r _ [13, 14, 90, 91, 92, 93, 94, 95, 96, 97] (by decide +kernel) (by decide +kernel)
set_option maxRecDepth 20000 in
theorem gX6_wear_X1_hasPerson : GoodIn wsX6_wear (wsV RX6 106 RX1 yX1_hasPerson wsX1_hasPerson) := goodIn_app (goodIn_of _ (by decide +kernel)) ggX6_wear_X1_hasPerson
set_option maxRecDepth 20000 in
theorem ggX6_wear_X2_isWorn : GoodIn wsX6_wear wsX2_isWorn := goodIn_r _ [19, 20, 21, 22, 18, 23, 24, 25, 26, 27, 98, 99, 100, 101] (by decide +kernel) (by decide +kernel)
set_option maxRecDepth 20000 in
theorem gX6_wear_X2_isWorn : GoodIn wsX6_wear (wsV RX6 141 RX2 yX2_isWorn wsX2_isWorn) := goodIn_app (goodIn_of _ (by decide +kernel)) ggX6_wear_X2_isWorn
set_option maxRecDepth 20000 in
theorem ggX6_wear_X2_gloveOn : GoodIn wsX6_wear wsX2_gloveOn := goodIn_r _ [31, 20, 21, 22, 18, 23, 24, 25, 26, 27, 98, 99, 100, 101] (by decide +kernel) (by decide +kernel)
set_option maxRecDepth 20000 in
theorem gX6_wear_X2_gloveOn : GoodIn wsX6_wear (wsV RX6 120 RX2 yX2_gloveOn wsX2_gloveOn) := goodIn_app (goodIn_of _ (by decide +kernel)) ggX6_wear_X2_gloveOn
set_option maxRecDepth 20000 in
theorem ggX6_wear_X0_add : GoodIn wsX6_wear wsX0_add := goodIn_r _ [36, 37, 38, 39, 40, 41, 35, 42, 43, 44, 45, 46, 18, 47, 48, 24, 49, 50, 51, 26, 52, 102, 103, 104, 98, 99, 100, 101] (by decide +kernel) (by decide +kernel)
set_option maxRecDepth 20000 in
theorem gX6_wear_X0_add : GoodIn wsX6_wear (wsV RX6 144 RX0 yX0_add wsX0_add) := goodIn_app (goodIn_of _ (by decide +kernel)) ggX6_wear_X0_add
set_option maxRecDepth 20000 in
theorem ggX6_wear_X2_putOn : GoodIn wsX6_wear wsX2_putOn := goodIn_r _ [56, 24, 57, 26, 58, 98, 99, 100, 101] (by decide +kernel) (by decide +kernel)
set_option maxRecDepth 20000 in
theorem gX6_wear_X2_putOn : GoodIn wsX6_wear (wsV RX6 147 RX2 yX2_putOn wsX2_putOn) := goodIn_app (goodIn_of _ (by decide +kernel)) ggX6_wear_X2_putOn
set_option maxRecDepth 20000 in
theorem ggX6_wear_X2_keptBy : GoodIn wsX6_wear wsX2_keptBy := goodIn_r _ [62, 48, 25, 26, 27, 98, 99, 100, 101] (by decide +kernel) (by decide +kernel)
set_option maxRecDepth 20000 in
theorem gX6_wear_X2_keptBy : GoodIn wsX6_wear (wsV RX6 132 RX2 yX2_keptBy wsX2_keptBy) := goodIn_app (goodIn_of _ (by decide +kernel)) ggX6_wear_X2_keptBy
set_option maxRecDepth 20000 in
theorem ggX6_wear_X1_reply : GoodIn wsX6_wear wsX1_reply := goodIn_r _ [66, 67, 26, 68, 69, 70, 71, 7, 72, 73, 25, 27, 74, 75, 76, 77, 78, 79, 80, 90, 91, 92, 93, 94, 95, 96, 97] (by decide +kernel) (by decide +kernel)
set_option maxRecDepth 20000 in
theorem gX6_wear_X1_reply : GoodIn wsX6_wear (wsV RX6 151 RX1 yX1_reply wsX1_reply) := goodIn_app (goodIn_of _ (by decide +kernel)) ggX6_wear_X1_reply
theorem dX6_wear_0 : decode cX6_wear 0 = .ok (.aload_n 0, 1) := by decide +kernel
theorem dX6_wear_1 : decode cX6_wear 1 = .ok (.getfield 19, 3) := by decide +kernel
theorem dX6_wear_4 : decode cX6_wear 4 = .ok (.iload_n 1, 1) := by decide +kernel
theorem dX6_wear_5 : decode cX6_wear 5 = .ok (.invokevirtual 123, 3) := by decide +kernel
theorem dX6_wear_8 : decode cX6_wear 8 = .ok (.ifCond .eq 14, 3) := by decide +kernel
theorem dX6_wear_11 : decode cX6_wear 11 = .ok (.aload_n 0, 1) := by decide +kernel
theorem dX6_wear_12 : decode cX6_wear 12 = .ok (.getfield 19, 3) := by decide +kernel
theorem dX6_wear_15 : decode cX6_wear 15 = .ok (.iload_n 2, 1) := by decide +kernel
theorem dX6_wear_16 : decode cX6_wear 16 = .ok (.invokevirtual 106, 3) := by decide +kernel
theorem dX6_wear_19 : decode cX6_wear 19 = .ok (.ifCond .ne 5, 3) := by decide +kernel
theorem dX6_wear_22 : decode cX6_wear 22 = .ok (.iconst (-1), 1) := by decide +kernel
theorem dX6_wear_23 : decode cX6_wear 23 = .ok (.ireturn, 1) := by decide +kernel
theorem dX6_wear_24 : decode cX6_wear 24 = .ok (.aload_n 0, 1) := by decide +kernel
theorem dX6_wear_25 : decode cX6_wear 25 = .ok (.getfield 26, 3) := by decide +kernel
theorem dX6_wear_28 : decode cX6_wear 28 = .ok (.iload_n 1, 1) := by decide +kernel
theorem dX6_wear_29 : decode cX6_wear 29 = .ok (.invokevirtual 141, 3) := by decide +kernel
theorem dX6_wear_32 : decode cX6_wear 32 = .ok (.ifCond .ne 16, 3) := by decide +kernel
theorem dX6_wear_35 : decode cX6_wear 35 = .ok (.aload_n 0, 1) := by decide +kernel
theorem dX6_wear_36 : decode cX6_wear 36 = .ok (.getfield 26, 3) := by decide +kernel
theorem dX6_wear_39 : decode cX6_wear 39 = .ok (.iload_n 2, 1) := by decide +kernel
theorem dX6_wear_40 : decode cX6_wear 40 = .ok (.invokevirtual 120, 3) := by decide +kernel
theorem dX6_wear_43 : decode cX6_wear 43 = .ok (.bipush (-9), 2) := by decide +kernel
theorem dX6_wear_45 : decode cX6_wear 45 = .ok (.if_icmp .eq 6, 3) := by decide +kernel
theorem dX6_wear_48 : decode cX6_wear 48 = .ok (.bipush (-3), 2) := by decide +kernel
theorem dX6_wear_50 : decode cX6_wear 50 = .ok (.ireturn, 1) := by decide +kernel
theorem dX6_wear_51 : decode cX6_wear 51 = .ok (.aload_n 0, 1) := by decide +kernel
theorem dX6_wear_52 : decode cX6_wear 52 = .ok (.getfield 36, 3) := by decide +kernel
theorem dX6_wear_55 : decode cX6_wear 55 = .ok (.aload_n 0, 1) := by decide +kernel
theorem dX6_wear_56 : decode cX6_wear 56 = .ok (.getfield 26, 3) := by decide +kernel
theorem dX6_wear_59 : decode cX6_wear 59 = .ok (.invokevirtual 144, 3) := by decide +kernel
theorem dX6_wear_62 : decode cX6_wear 62 = .ok (.aload_n 0, 1) := by decide +kernel
theorem dX6_wear_63 : decode cX6_wear 63 = .ok (.getfield 26, 3) := by decide +kernel
theorem dX6_wear_66 : decode cX6_wear 66 = .ok (.iload_n 1, 1) := by decide +kernel
theorem dX6_wear_67 : decode cX6_wear 67 = .ok (.iload_n 2, 1) := by decide +kernel
theorem dX6_wear_68 : decode cX6_wear 68 = .ok (.invokevirtual 147, 3) := by decide +kernel
theorem dX6_wear_71 : decode cX6_wear 71 = .ok (.aload_n 0, 1) := by decide +kernel
theorem dX6_wear_72 : decode cX6_wear 72 = .ok (.getfield 19, 3) := by decide +kernel
theorem dX6_wear_75 : decode cX6_wear 75 = .ok (.iload_n 1, 1) := by decide +kernel
theorem dX6_wear_76 : decode cX6_wear 76 = .ok (.aload_n 0, 1) := by decide +kernel
theorem dX6_wear_77 : decode cX6_wear 77 = .ok (.getfield 26, 3) := by decide +kernel
theorem dX6_wear_80 : decode cX6_wear 80 = .ok (.iload_n 1, 1) := by decide +kernel
theorem dX6_wear_81 : decode cX6_wear 81 = .ok (.invokevirtual 132, 3) := by decide +kernel
theorem dX6_wear_84 : decode cX6_wear 84 = .ok (.iload_n 2, 1) := by decide +kernel
theorem dX6_wear_85 : decode cX6_wear 85 = .ok (.invokevirtual 151, 3) := by decide +kernel
theorem dX6_wear_88 : decode cX6_wear 88 = .ok (.ireturn, 1) := by decide +kernel
set_option maxRecDepth 20000 in
theorem ggX6_takeOff_X1_hasGlove : GoodIn wsX6_takeOff wsX1_hasGlove := goodIn_r _ [8, 9, 91, 92, 93, 94, 95, 96, 97, 98] (by decide +kernel) (by decide +kernel)
set_option maxRecDepth 20000 in
theorem gX6_takeOff_X1_hasGlove : GoodIn wsX6_takeOff (wsV RX6 123 RX1 yX1_hasGlove wsX1_hasGlove) := goodIn_app (goodIn_of _ (by decide +kernel)) ggX6_takeOff_X1_hasGlove
set_option maxRecDepth 20000 in
theorem ggX6_takeOff_X2_isWorn : GoodIn wsX6_takeOff wsX2_isWorn := goodIn_r _ [14, 15, 16, 17, 13, 18, 19, 20, 21, 22, 99, 100, 101, 102] (by decide +kernel) (by decide +kernel)
set_option maxRecDepth 20000 in
theorem gX6_takeOff_X2_isWorn : GoodIn wsX6_takeOff (wsV RX6 141 RX2 yX2_isWorn wsX2_isWorn) := goodIn_app (goodIn_of _ (by decide +kernel)) ggX6_takeOff_X2_isWorn
set_option maxRecDepth 20000 in
theorem ggX6_takeOff_X0_add : GoodIn wsX6_takeOff wsX0_add := goodIn_r _ [27, 28, 29, 30, 31, 32, 26, 33, 34, 35, 36, 37, 13, 38, 39, 19, 40, 41, 42, 21, 43, 103, 104, 105, 99, 100, 101, 102] (by decide +kernel) (by decide +kernel)
set_option maxRecDepth 20000 in
theorem gX6_takeOff_X0_add : GoodIn wsX6_takeOff (wsV RX6 144 RX0 yX0_add wsX0_add) := goodIn_app (goodIn_of _ (by decide +kernel)) ggX6_takeOff_X0_add
set_option maxRecDepth 20000 in
theorem ggX6_takeOff_X6_layDown : GoodIn wsX6_takeOff wsX6_layDown := goodIn_r _ [47, 1, 2, 48, 49, 50, 13, 51, 39, 20, 21, 22, 52, 16, 17, 18, 19, 53, 54, 55, 7, 56, 57, 58, 59, 60, 61, 62, 63, 64, 65, 66, 67, 68, 69, 70, 71, 72, 73, 74, 75, 76, 77, 78, 82, 83, 84, 85, 86, 87, 88, 89, 90, 99, 100, 101, 102, 91, 92, 93, 94, 95, 96, 97, 98] (by decide +kernel) (by decide +kernel)
set_option maxRecDepth 20000 in
theorem gX6_takeOff_X6_layDown : GoodIn wsX6_takeOff (wsV RX6 155 RX6 yX6_layDown wsX6_layDown) := goodIn_app (goodIn_of _ (by decide +kernel)) ggX6_takeOff_X6_layDown
set_option maxRecDepth 20000 in
theorem ggX6_takeOff_X2_keptBy : GoodIn wsX6_takeOff wsX2_keptBy := goodIn_r _ [51, 39, 20, 21, 22, 99, 100, 101, 102] (by decide +kernel) (by decide +kernel)
set_option maxRecDepth 20000 in
theorem gX6_takeOff_X2_keptBy : GoodIn wsX6_takeOff (wsV RX6 132 RX2 yX2_keptBy wsX2_keptBy) := goodIn_app (goodIn_of _ (by decide +kernel)) ggX6_takeOff_X2_keptBy
set_option maxRecDepth 20000 in
theorem ggX6_takeOff_X6_figuresIn : GoodIn wsX6_takeOff wsX6_figuresIn := goodIn_r _ [81] (by decide +kernel) (by decide +kernel)
set_option maxRecDepth 20000 in
theorem gX6_takeOff_X6_figuresIn : GoodIn wsX6_takeOff (va_wsS RX6 135 yX6_figuresIn wsX6_figuresIn) := goodIn_app (goodIn_of _ (by decide +kernel)) ggX6_takeOff_X6_figuresIn
theorem dX6_takeOff_0 : decode cX6_takeOff 0 = .ok (.aload_n 0, 1) := by decide +kernel
theorem dX6_takeOff_1 : decode cX6_takeOff 1 = .ok (.getfield 19, 3) := by decide +kernel
theorem dX6_takeOff_4 : decode cX6_takeOff 4 = .ok (.iload_n 1, 1) := by decide +kernel
theorem dX6_takeOff_5 : decode cX6_takeOff 5 = .ok (.invokevirtual 123, 3) := by decide +kernel
theorem dX6_takeOff_8 : decode cX6_takeOff 8 = .ok (.ifCond .ne 5, 3) := by decide +kernel
theorem dX6_takeOff_11 : decode cX6_takeOff 11 = .ok (.iconst (-1), 1) := by decide +kernel
theorem dX6_takeOff_12 : decode cX6_takeOff 12 = .ok (.ireturn, 1) := by decide +kernel
theorem dX6_takeOff_13 : decode cX6_takeOff 13 = .ok (.aload_n 0, 1) := by decide +kernel
theorem dX6_takeOff_14 : decode cX6_takeOff 14 = .ok (.getfield 26, 3) := by decide +kernel
theorem dX6_takeOff_17 : decode cX6_takeOff 17 = .ok (.iload_n 1, 1) := by decide +kernel
theorem dX6_takeOff_18 : decode cX6_takeOff 18 = .ok (.invokevirtual 141, 3) := by decide +kernel
theorem dX6_takeOff_21 : decode cX6_takeOff 21 = .ok (.ifCond .ne 6, 3) := by decide +kernel
theorem dX6_takeOff_24 : decode cX6_takeOff 24 = .ok (.bipush (-3), 2) := by decide +kernel
theorem dX6_takeOff_26 : decode cX6_takeOff 26 = .ok (.ireturn, 1) := by decide +kernel
theorem dX6_takeOff_27 : decode cX6_takeOff 27 = .ok (.aload_n 0, 1) := by decide +kernel
theorem dX6_takeOff_28 : decode cX6_takeOff 28 = .ok (.getfield 36, 3) := by decide +kernel
theorem dX6_takeOff_31 : decode cX6_takeOff 31 = .ok (.aload_n 0, 1) := by decide +kernel
theorem dX6_takeOff_32 : decode cX6_takeOff 32 = .ok (.getfield 26, 3) := by decide +kernel
theorem dX6_takeOff_35 : decode cX6_takeOff 35 = .ok (.invokevirtual 144, 3) := by decide +kernel
theorem dX6_takeOff_38 : decode cX6_takeOff 38 = .ok (.aload_n 0, 1) := by decide +kernel
theorem dX6_takeOff_39 : decode cX6_takeOff 39 = .ok (.iload_n 1, 1) := by decide +kernel
theorem dX6_takeOff_40 : decode cX6_takeOff 40 = .ok (.invokevirtual 155, 3) := by decide +kernel
theorem dX6_takeOff_43 : decode cX6_takeOff 43 = .ok (.aload_n 0, 1) := by decide +kernel
theorem dX6_takeOff_44 : decode cX6_takeOff 44 = .ok (.getfield 26, 3) := by decide +kernel
theorem dX6_takeOff_47 : decode cX6_takeOff 47 = .ok (.iload_n 1, 1) := by decide +kernel
theorem dX6_takeOff_48 : decode cX6_takeOff 48 = .ok (.invokevirtual 132, 3) := by decide +kernel
theorem dX6_takeOff_51 : decode cX6_takeOff 51 = .ok (.invokestatic 135, 3) := by decide +kernel
theorem dX6_takeOff_54 : decode cX6_takeOff 54 = .ok (.ireturn, 1) := by decide +kernel
set_option maxRecDepth 20000 in
theorem ggX6_wash_X1_hasGlove : GoodIn wsX6_wash wsX1_hasGlove := goodIn_r _ [8, 9, 69, 70, 71, 72, 73, 74, 75, 76] (by decide +kernel) (by decide +kernel)
set_option maxRecDepth 20000 in
theorem gX6_wash_X1_hasGlove : GoodIn wsX6_wash (wsV RX6 123 RX1 yX1_hasGlove wsX1_hasGlove) := goodIn_app (goodIn_of _ (by decide +kernel)) ggX6_wash_X1_hasGlove
set_option maxRecDepth 20000 in
theorem ggX6_wash_X2_keptBy : GoodIn wsX6_wash wsX2_keptBy := goodIn_r _ [14, 15, 16, 17, 18, 77, 78, 79, 80] (by decide +kernel) (by decide +kernel)
set_option maxRecDepth 20000 in
theorem gX6_wash_X2_keptBy : GoodIn wsX6_wash (wsV RX6 132 RX2 yX2_keptBy wsX2_keptBy) := goodIn_app (goodIn_of _ (by decide +kernel)) ggX6_wash_X2_keptBy
set_option maxRecDepth 20000 in
theorem ggX6_wash_X2_isWorn : GoodIn wsX6_wash wsX2_isWorn := goodIn_r _ [22, 23, 24, 25, 13, 26, 27, 16, 17, 18, 77, 78, 79, 80] (by decide +kernel) (by decide +kernel)
set_option maxRecDepth 20000 in
theorem gX6_wash_X2_isWorn : GoodIn wsX6_wash (wsV RX6 141 RX2 yX2_isWorn wsX2_isWorn) := goodIn_app (goodIn_of _ (by decide +kernel)) ggX6_wash_X2_isWorn
set_option maxRecDepth 20000 in
theorem ggX6_wash_X0_add : GoodIn wsX6_wash wsX0_add := goodIn_r _ [32, 33, 34, 35, 36, 37, 31, 38, 39, 40, 41, 42, 13, 43, 15, 27, 44, 45, 46, 17, 47, 81, 82, 83, 77, 78, 79, 80] (by decide +kernel) (by decide +kernel)
set_option maxRecDepth 20000 in
theorem gX6_wash_X0_add : GoodIn wsX6_wash (wsV RX6 144 RX0 yX0_add wsX0_add) := goodIn_app (goodIn_of _ (by decide +kernel)) ggX6_wash_X0_add
set_option maxRecDepth 20000 in
theorem ggX6_wash_X6_withoutLast : GoodIn wsX6_wash wsX6_withoutLast := goodIn_r _ [50] (by decide +kernel) (by decide +kernel)
set_option maxRecDepth 20000 in
theorem gX6_wash_X6_withoutLast : GoodIn wsX6_wash (va_wsS RX6 158 yX6_withoutLast wsX6_withoutLast) := goodIn_app (goodIn_of _ (by decide +kernel)) ggX6_wash_X6_withoutLast
set_option maxRecDepth 20000 in
theorem ggX6_wash_X2_setKept : GoodIn wsX6_wash wsX2_setKept := goodIn_r _ [54, 15, 55, 17, 56, 77, 78, 79, 80] (by decide +kernel) (by decide +kernel)
set_option maxRecDepth 20000 in
theorem gX6_wash_X2_setKept : GoodIn wsX6_wash (wsV RX6 161 RX2 yX2_setKept wsX2_setKept) := goodIn_app (goodIn_of _ (by decide +kernel)) ggX6_wash_X2_setKept
set_option maxRecDepth 20000 in
theorem ggX6_wash_X6_lastOf : GoodIn wsX6_wash wsX6_lastOf := goodIn_r _ [59] (by decide +kernel) (by decide +kernel)
set_option maxRecDepth 20000 in
theorem gX6_wash_X6_lastOf : GoodIn wsX6_wash (va_wsS RX6 164 yX6_lastOf wsX6_lastOf) := goodIn_app (goodIn_of _ (by decide +kernel)) ggX6_wash_X6_lastOf
theorem dX6_wash_0 : decode cX6_wash 0 = .ok (.aload_n 0, 1) := by decide +kernel
theorem dX6_wash_1 : decode cX6_wash 1 = .ok (.getfield 19, 3) := by decide +kernel
theorem dX6_wash_4 : decode cX6_wash 4 = .ok (.iload_n 1, 1) := by decide +kernel
theorem dX6_wash_5 : decode cX6_wash 5 = .ok (.invokevirtual 123, 3) := by decide +kernel
theorem dX6_wash_8 : decode cX6_wash 8 = .ok (.ifCond .ne 5, 3) := by decide +kernel
theorem dX6_wash_11 : decode cX6_wash 11 = .ok (.iconst (-1), 1) := by decide +kernel
theorem dX6_wash_12 : decode cX6_wash 12 = .ok (.ireturn, 1) := by decide +kernel
theorem dX6_wash_13 : decode cX6_wash 13 = .ok (.aload_n 0, 1) := by decide +kernel
theorem dX6_wash_14 : decode cX6_wash 14 = .ok (.getfield 26, 3) := by decide +kernel
theorem dX6_wash_17 : decode cX6_wash 17 = .ok (.iload_n 1, 1) := by decide +kernel
theorem dX6_wash_18 : decode cX6_wash 18 = .ok (.invokevirtual 132, 3) := by decide +kernel
theorem dX6_wash_21 : decode cX6_wash 21 = .ok (.istore_n 2, 1) := by decide +kernel
theorem dX6_wash_22 : decode cX6_wash 22 = .ok (.aload_n 0, 1) := by decide +kernel
theorem dX6_wash_23 : decode cX6_wash 23 = .ok (.getfield 26, 3) := by decide +kernel
theorem dX6_wash_26 : decode cX6_wash 26 = .ok (.iload_n 1, 1) := by decide +kernel
theorem dX6_wash_27 : decode cX6_wash 27 = .ok (.invokevirtual 141, 3) := by decide +kernel
theorem dX6_wash_30 : decode cX6_wash 30 = .ok (.ifCond .ne 7, 3) := by decide +kernel
theorem dX6_wash_33 : decode cX6_wash 33 = .ok (.iload_n 2, 1) := by decide +kernel
theorem dX6_wash_34 : decode cX6_wash 34 = .ok (.ifCond .ne 6, 3) := by decide +kernel
theorem dX6_wash_37 : decode cX6_wash 37 = .ok (.bipush (-3), 2) := by decide +kernel
theorem dX6_wash_39 : decode cX6_wash 39 = .ok (.ireturn, 1) := by decide +kernel
theorem dX6_wash_40 : decode cX6_wash 40 = .ok (.aload_n 0, 1) := by decide +kernel
theorem dX6_wash_41 : decode cX6_wash 41 = .ok (.getfield 36, 3) := by decide +kernel
theorem dX6_wash_44 : decode cX6_wash 44 = .ok (.aload_n 0, 1) := by decide +kernel
theorem dX6_wash_45 : decode cX6_wash 45 = .ok (.getfield 26, 3) := by decide +kernel
theorem dX6_wash_48 : decode cX6_wash 48 = .ok (.invokevirtual 144, 3) := by decide +kernel
theorem dX6_wash_51 : decode cX6_wash 51 = .ok (.aload_n 0, 1) := by decide +kernel
theorem dX6_wash_52 : decode cX6_wash 52 = .ok (.getfield 26, 3) := by decide +kernel
theorem dX6_wash_55 : decode cX6_wash 55 = .ok (.iload_n 1, 1) := by decide +kernel
theorem dX6_wash_56 : decode cX6_wash 56 = .ok (.iload_n 2, 1) := by decide +kernel
theorem dX6_wash_57 : decode cX6_wash 57 = .ok (.invokestatic 158, 3) := by decide +kernel
theorem dX6_wash_60 : decode cX6_wash 60 = .ok (.invokevirtual 161, 3) := by decide +kernel
theorem dX6_wash_63 : decode cX6_wash 63 = .ok (.iload_n 2, 1) := by decide +kernel
theorem dX6_wash_64 : decode cX6_wash 64 = .ok (.invokestatic 164, 3) := by decide +kernel
theorem dX6_wash_67 : decode cX6_wash 67 = .ok (.ireturn, 1) := by decide +kernel
set_option maxRecDepth 20000 in
theorem ggX6_day_X0_add : GoodIn wsX6_day wsX0_add := goodIn_r _ [8, 9, 10, 11, 12, 13, 7, 14, 15, 16, 17, 18, 19, 20, 21, 22, 23, 24, 25, 26, 27, 92, 93, 94, 95, 96, 97, 98] (by decide +kernel) (by decide +kernel)
set_option maxRecDepth 20000 in
theorem gX6_day_X0_add : GoodIn wsX6_day (wsV RX6 144 RX0 yX0_add wsX0_add) := goodIn_app (goodIn_of _ (by decide +kernel)) ggX6_day_X0_add
set_option maxRecDepth 20000 in
theorem ggX6_day_X1_gloves : GoodIn wsX6_day wsX1_gloves := goodIn_r _ [32, 33, 99, 100, 101, 102, 103, 104, 105, 106] (by decide +kernel) (by decide +kernel)
set_option maxRecDepth 20000 in
theorem gX6_day_X1_gloves : GoodIn wsX6_day (wsV RX6 95 RX1 yX1_gloves wsX1_gloves) := goodIn_app (goodIn_of _ (by decide +kernel)) ggX6_day_X1_gloves
set_option maxRecDepth 20000 in
theorem ggX6_day_X2_isWorn : GoodIn wsX6_day wsX2_isWorn := goodIn_r _ [37, 38, 39, 40, 19, 41, 22, 42, 26, 43, 95, 96, 97, 98] (by decide +kernel) (by decide +kernel)
set_option maxRecDepth 20000 in
theorem gX6_day_X2_isWorn : GoodIn wsX6_day (wsV RX6 141 RX2 yX2_isWorn wsX2_isWorn) := goodIn_app (goodIn_of _ (by decide +kernel)) ggX6_day_X2_isWorn
set_option maxRecDepth 20000 in
theorem ggX6_day_X6_layDown : GoodIn wsX6_day wsX6_layDown := goodIn_r _ [47, 3, 2, 48, 49, 50, 19, 51, 21, 42, 26, 43, 52, 39, 40, 41, 22, 53, 54, 55, 31, 56, 57, 58, 59, 60, 61, 62, 63, 64, 65, 66, 67, 68, 69, 70, 71, 72, 73, 74, 75, 76, 77, 78, 83, 84, 85, 86, 87, 88, 89, 90, 91, 95, 96, 97, 98, 99, 100, 101, 102, 103, 104, 105, 106] (by decide +kernel) (by decide +kernel)
set_option maxRecDepth 20000 in
theorem gX6_day_X6_layDown : GoodIn wsX6_day (wsV RX6 155 RX6 yX6_layDown wsX6_layDown) := goodIn_app (goodIn_of _ (by decide +kernel)) ggX6_day_X6_layDown
set_option maxRecDepth 20000 in
theorem ggX6_day_X2_nextDay : GoodIn wsX6_day wsX2_nextDay := goodIn_r _ [82, 23, 95, 96, 97, 98] (by decide +kernel) (by decide +kernel)
set_option maxRecDepth 20000 in
theorem gX6_day_X2_nextDay : GoodIn wsX6_day (wsV RX6 167 RX2 yX2_nextDay wsX2_nextDay) := goodIn_app (goodIn_of _ (by decide +kernel)) ggX6_day_X2_nextDay
theorem dX6_day_0 : decode cX6_day 0 = .ok (.aload_n 0, 1) := by decide +kernel
theorem dX6_day_1 : decode cX6_day 1 = .ok (.getfield 36, 3) := by decide +kernel
theorem dX6_day_4 : decode cX6_day 4 = .ok (.aload_n 0, 1) := by decide +kernel
theorem dX6_day_5 : decode cX6_day 5 = .ok (.getfield 26, 3) := by decide +kernel
theorem dX6_day_8 : decode cX6_day 8 = .ok (.invokevirtual 144, 3) := by decide +kernel
theorem dX6_day_11 : decode cX6_day 11 = .ok (.iconst 0, 1) := by decide +kernel
theorem dX6_day_12 : decode cX6_day 12 = .ok (.istore_n 1, 1) := by decide +kernel
theorem dX6_day_13 : decode cX6_day 13 = .ok (.iconst 0, 1) := by decide +kernel
theorem dX6_day_14 : decode cX6_day 14 = .ok (.istore_n 2, 1) := by decide +kernel
theorem dX6_day_15 : decode cX6_day 15 = .ok (.iload_n 2, 1) := by decide +kernel
theorem dX6_day_16 : decode cX6_day 16 = .ok (.aload_n 0, 1) := by decide +kernel
theorem dX6_day_17 : decode cX6_day 17 = .ok (.getfield 19, 3) := by decide +kernel
theorem dX6_day_20 : decode cX6_day 20 = .ok (.invokevirtual 95, 3) := by decide +kernel
theorem dX6_day_23 : decode cX6_day 23 = .ok (.if_icmp .ge 28, 3) := by decide +kernel
theorem dX6_day_26 : decode cX6_day 26 = .ok (.aload_n 0, 1) := by decide +kernel
theorem dX6_day_27 : decode cX6_day 27 = .ok (.getfield 26, 3) := by decide +kernel
theorem dX6_day_30 : decode cX6_day 30 = .ok (.iload_n 2, 1) := by decide +kernel
theorem dX6_day_31 : decode cX6_day 31 = .ok (.invokevirtual 141, 3) := by decide +kernel
theorem dX6_day_34 : decode cX6_day 34 = .ok (.ifCond .eq 11, 3) := by decide +kernel
theorem dX6_day_37 : decode cX6_day 37 = .ok (.aload_n 0, 1) := by decide +kernel
theorem dX6_day_38 : decode cX6_day 38 = .ok (.iload_n 2, 1) := by decide +kernel
theorem dX6_day_39 : decode cX6_day 39 = .ok (.invokevirtual 155, 3) := by decide +kernel
theorem dX6_day_42 : decode cX6_day 42 = .ok (.iinc 1 1, 3) := by decide +kernel
theorem dX6_day_45 : decode cX6_day 45 = .ok (.iinc 2 1, 3) := by decide +kernel
theorem dX6_day_48 : decode cX6_day 48 = .ok (.goto (-33), 3) := by decide +kernel
theorem dX6_day_51 : decode cX6_day 51 = .ok (.aload_n 0, 1) := by decide +kernel
theorem dX6_day_52 : decode cX6_day 52 = .ok (.getfield 26, 3) := by decide +kernel
theorem dX6_day_55 : decode cX6_day 55 = .ok (.invokevirtual 167, 3) := by decide +kernel
theorem dX6_day_58 : decode cX6_day 58 = .ok (.iload_n 1, 1) := by decide +kernel
theorem dX6_day_59 : decode cX6_day 59 = .ok (.ireturn, 1) := by decide +kernel
set_option maxRecDepth 20000 in
theorem ggX6_undo_X0_size : GoodIn wsX6_undo wsX0_size := goodIn_r _ [7, 8, 40, 41, 42] (by decide +kernel) (by decide +kernel)
set_option maxRecDepth 20000 in
theorem gX6_undo_X0_size : GoodIn wsX6_undo (wsV RX6 104 RX0 yX0_size wsX0_size) := goodIn_app (goodIn_of _ (by decide +kernel)) ggX6_undo_X0_size
set_option maxRecDepth 20000 in
theorem ggX6_undo_X0_giveBackLast : GoodIn wsX6_undo wsX0_giveBackLast := goodIn_r _ [12, 8, 13, 14, 15, 6, 16, 17, 18, 19, 20, 21, 22, 23, 24, 25, 26, 27, 28, 29, 30, 40, 41, 42, 43, 44, 45, 46] (by decide +kernel) (by decide +kernel)
set_option maxRecDepth 20000 in
theorem gX6_undo_X0_giveBackLast : GoodIn wsX6_undo (wsV RX6 170 RX0 yX0_giveBackLast wsX0_giveBackLast) := goodIn_app (goodIn_of _ (by decide +kernel)) ggX6_undo_X0_giveBackLast
theorem dX6_undo_0 : decode cX6_undo 0 = .ok (.aload_n 0, 1) := by decide +kernel
theorem dX6_undo_1 : decode cX6_undo 1 = .ok (.getfield 36, 3) := by decide +kernel
theorem dX6_undo_4 : decode cX6_undo 4 = .ok (.invokevirtual 104, 3) := by decide +kernel
theorem dX6_undo_7 : decode cX6_undo 7 = .ok (.ifCond .ne 6, 3) := by decide +kernel
theorem dX6_undo_10 : decode cX6_undo 10 = .ok (.bipush (-3), 2) := by decide +kernel
theorem dX6_undo_12 : decode cX6_undo 12 = .ok (.ireturn, 1) := by decide +kernel
theorem dX6_undo_13 : decode cX6_undo 13 = .ok (.aload_n 0, 1) := by decide +kernel
theorem dX6_undo_14 : decode cX6_undo 14 = .ok (.getfield 36, 3) := by decide +kernel
theorem dX6_undo_17 : decode cX6_undo 17 = .ok (.aload_n 0, 1) := by decide +kernel
theorem dX6_undo_18 : decode cX6_undo 18 = .ok (.getfield 26, 3) := by decide +kernel
theorem dX6_undo_21 : decode cX6_undo 21 = .ok (.invokevirtual 170, 3) := by decide +kernel
theorem dX6_undo_24 : decode cX6_undo 24 = .ok (.aload_n 0, 1) := by decide +kernel
theorem dX6_undo_25 : decode cX6_undo 25 = .ok (.getfield 36, 3) := by decide +kernel
theorem dX6_undo_28 : decode cX6_undo 28 = .ok (.invokevirtual 104, 3) := by decide +kernel
theorem dX6_undo_31 : decode cX6_undo 31 = .ok (.ireturn, 1) := by decide +kernel
set_option maxRecDepth 20000 in
theorem ggX6_does_X1_hasGlove : GoodIn wsX6_does wsX1_hasGlove := goodIn_r _ [7, 8, 84, 85, 86, 87, 88, 89, 90, 91] (by decide +kernel) (by decide +kernel)
set_option maxRecDepth 20000 in
theorem gX6_does_X1_hasGlove : GoodIn wsX6_does (wsV RX6 123 RX1 yX1_hasGlove wsX1_hasGlove) := goodIn_app (goodIn_of _ (by decide +kernel)) ggX6_does_X1_hasGlove
set_option maxRecDepth 20000 in
theorem ggX6_does_X6_within : GoodIn wsX6_does wsX6_within := goodIn_r _ [12] (by decide +kernel) (by decide +kernel)
set_option maxRecDepth 20000 in
theorem gX6_does_X6_within : GoodIn wsX6_does (va_wsS RX6 62 yX6_within wsX6_within) := goodIn_app (goodIn_of _ (by decide +kernel)) ggX6_does_X6_within
set_option maxRecDepth 20000 in
theorem ggX6_does_X6_isRow : GoodIn wsX6_does wsX6_isRow := goodIn_r _ [16, 1, 17, 18, 19, 6, 20, 21, 75, 76, 77, 78, 79, 80, 81, 82, 83, 84, 85, 86, 87, 88, 89, 90, 91] (by decide +kernel) (by decide +kernel)
set_option maxRecDepth 20000 in
theorem gX6_does_X6_isRow : GoodIn wsX6_does (wsV RX6 173 RX6 yX6_isRow wsX6_isRow) := goodIn_app (goodIn_of _ (by decide +kernel)) ggX6_does_X6_isRow
set_option maxRecDepth 20000 in
theorem ggX6_does_X2_isWorn : GoodIn wsX6_does wsX2_isWorn := goodIn_r _ [26, 27, 28, 29, 25, 30, 31, 32, 11, 33, 92, 93, 94, 95] (by decide +kernel) (by decide +kernel)
set_option maxRecDepth 20000 in
theorem gX6_does_X2_isWorn : GoodIn wsX6_does (wsV RX6 141 RX2 yX2_isWorn wsX2_isWorn) := goodIn_app (goodIn_of _ (by decide +kernel)) ggX6_does_X2_isWorn
set_option maxRecDepth 20000 in
theorem ggX6_does_X6_replyToRow : GoodIn wsX6_does wsX6_replyToRow := goodIn_r _ [37, 2, 1, 38, 39, 11, 40, 41, 42, 43, 25, 44, 45, 32, 33, 46, 47, 48, 6, 49, 50, 51, 52, 53, 54, 55, 56, 57, 58, 59, 60, 61, 62, 63, 64, 65, 66, 67, 68, 69, 70, 71, 72, 73, 74, 75, 76, 77, 78, 79, 80, 81, 82, 83, 92, 93, 94, 95, 84, 85, 86, 87, 88, 89, 90, 91] (by decide +kernel) (by decide +kernel)
set_option maxRecDepth 20000 in
theorem gX6_does_X6_replyToRow : GoodIn wsX6_does (wsV RX6 177 RX6 yX6_replyToRow wsX6_replyToRow) := goodIn_app (goodIn_of _ (by decide +kernel)) ggX6_does_X6_replyToRow
theorem dX6_does_0 : decode cX6_does 0 = .ok (.aload_n 0, 1) := by decide +kernel
theorem dX6_does_1 : decode cX6_does 1 = .ok (.getfield 19, 3) := by decide +kernel
theorem dX6_does_4 : decode cX6_does 4 = .ok (.iload_n 1, 1) := by decide +kernel
theorem dX6_does_5 : decode cX6_does 5 = .ok (.invokevirtual 123, 3) := by decide +kernel
theorem dX6_does_8 : decode cX6_does 8 = .ok (.ifCond .ne 5, 3) := by decide +kernel
theorem dX6_does_11 : decode cX6_does 11 = .ok (.iconst (-1), 1) := by decide +kernel
theorem dX6_does_12 : decode cX6_does 12 = .ok (.ireturn, 1) := by decide +kernel
theorem dX6_does_13 : decode cX6_does 13 = .ok (.iload_n 2, 1) := by decide +kernel
theorem dX6_does_14 : decode cX6_does 14 = .ok (.iconst 1, 1) := by decide +kernel
theorem dX6_does_15 : decode cX6_does 15 = .ok (.iconst 4, 1) := by decide +kernel
theorem dX6_does_16 : decode cX6_does 16 = .ok (.invokestatic 62, 3) := by decide +kernel
theorem dX6_does_19 : decode cX6_does 19 = .ok (.ifCond .eq 12, 3) := by decide +kernel
theorem dX6_does_22 : decode cX6_does 22 = .ok (.aload_n 0, 1) := by decide +kernel
theorem dX6_does_23 : decode cX6_does 23 = .ok (.iload_n 2, 1) := by decide +kernel
theorem dX6_does_24 : decode cX6_does 24 = .ok (.iload_n 3, 1) := by decide +kernel
theorem dX6_does_25 : decode cX6_does 25 = .ok (.invokevirtual 173, 3) := by decide +kernel
theorem dX6_does_28 : decode cX6_does 28 = .ok (.ifCond .ne 6, 3) := by decide +kernel
theorem dX6_does_31 : decode cX6_does 31 = .ok (.bipush (-2), 2) := by decide +kernel
theorem dX6_does_33 : decode cX6_does 33 = .ok (.ireturn, 1) := by decide +kernel
theorem dX6_does_34 : decode cX6_does 34 = .ok (.aload_n 0, 1) := by decide +kernel
theorem dX6_does_35 : decode cX6_does 35 = .ok (.getfield 26, 3) := by decide +kernel
theorem dX6_does_38 : decode cX6_does 38 = .ok (.iload_n 1, 1) := by decide +kernel
theorem dX6_does_39 : decode cX6_does 39 = .ok (.invokevirtual 141, 3) := by decide +kernel
theorem dX6_does_42 : decode cX6_does 42 = .ok (.ifCond .eq 6, 3) := by decide +kernel
theorem dX6_does_45 : decode cX6_does 45 = .ok (.bipush (-3), 2) := by decide +kernel
theorem dX6_does_47 : decode cX6_does 47 = .ok (.ireturn, 1) := by decide +kernel
theorem dX6_does_48 : decode cX6_does 48 = .ok (.aload_n 0, 1) := by decide +kernel
theorem dX6_does_49 : decode cX6_does 49 = .ok (.iload_n 1, 1) := by decide +kernel
theorem dX6_does_50 : decode cX6_does 50 = .ok (.iload_n 2, 1) := by decide +kernel
theorem dX6_does_51 : decode cX6_does 51 = .ok (.iload_n 3, 1) := by decide +kernel
theorem dX6_does_52 : decode cX6_does 52 = .ok (.invokevirtual 177, 3) := by decide +kernel
theorem dX6_does_55 : decode cX6_does 55 = .ok (.ireturn, 1) := by decide +kernel
set_option maxRecDepth 20000 in
theorem ggX6_comes_X1_hasGlove : GoodIn wsX6_comes wsX1_hasGlove := goodIn_r _ [7, 8, 79, 80, 81, 82, 83, 84, 85, 86] (by decide +kernel) (by decide +kernel)
set_option maxRecDepth 20000 in
theorem gX6_comes_X1_hasGlove : GoodIn wsX6_comes (wsV RX6 123 RX1 yX1_hasGlove wsX1_hasGlove) := goodIn_app (goodIn_of _ (by decide +kernel)) ggX6_comes_X1_hasGlove
set_option maxRecDepth 20000 in
theorem ggX6_comes_X6_within : GoodIn wsX6_comes wsX6_within := goodIn_r _ [12] (by decide +kernel) (by decide +kernel)
set_option maxRecDepth 20000 in
theorem gX6_comes_X6_within : GoodIn wsX6_comes (va_wsS RX6 62 yX6_within wsX6_within) := goodIn_app (goodIn_of _ (by decide +kernel)) ggX6_comes_X6_within
set_option maxRecDepth 20000 in
theorem ggX6_comes_X6_isChoice : GoodIn wsX6_comes wsX6_isChoice := goodIn_r _ [15, 9, 10, 11, 12] (by decide +kernel) (by decide +kernel)
set_option maxRecDepth 20000 in
theorem gX6_comes_X6_isChoice : GoodIn wsX6_comes (va_wsS RX6 180 yX6_isChoice wsX6_isChoice) := goodIn_app (goodIn_of _ (by decide +kernel)) ggX6_comes_X6_isChoice
set_option maxRecDepth 20000 in
theorem ggX6_comes_X2_isWorn : GoodIn wsX6_comes wsX2_isWorn := goodIn_r _ [20, 21, 22, 23, 19, 24, 25, 26, 11, 27, 87, 88, 89, 90] (by decide +kernel) (by decide +kernel)
set_option maxRecDepth 20000 in
theorem gX6_comes_X2_isWorn : GoodIn wsX6_comes (wsV RX6 141 RX2 yX2_isWorn wsX2_isWorn) := goodIn_app (goodIn_of _ (by decide +kernel)) ggX6_comes_X2_isWorn
set_option maxRecDepth 20000 in
theorem ggX6_comes_X2_keptBy : GoodIn wsX6_comes wsX2_keptBy := goodIn_r _ [31, 32, 26, 11, 27, 87, 88, 89, 90] (by decide +kernel) (by decide +kernel)
set_option maxRecDepth 20000 in
theorem gX6_comes_X2_keptBy : GoodIn wsX6_comes (wsV RX6 132 RX2 yX2_keptBy wsX2_keptBy) := goodIn_app (goodIn_of _ (by decide +kernel)) ggX6_comes_X2_keptBy
set_option maxRecDepth 20000 in
theorem ggX6_comes_X6_firstRow : GoodIn wsX6_comes wsX6_firstRow := goodIn_r _ [35, 36, 37, 38, 6, 39, 40, 41, 42, 43, 44, 45, 46, 47, 48, 49, 26, 11, 27, 50, 51, 52, 53, 54, 55, 56, 33, 34, 57, 58, 59, 60, 61, 62, 63, 64, 65, 66, 67, 68, 69, 79, 80, 81, 82, 83, 84, 85, 86] (by decide +kernel) (by decide +kernel)
set_option maxRecDepth 20000 in
theorem gX6_comes_X6_firstRow : GoodIn wsX6_comes (va_wsS RX6 183 yX6_firstRow wsX6_firstRow) := goodIn_app (goodIn_of _ (by decide +kernel)) ggX6_comes_X6_firstRow
theorem dX6_comes_0 : decode cX6_comes 0 = .ok (.aload_n 0, 1) := by decide +kernel
theorem dX6_comes_1 : decode cX6_comes 1 = .ok (.getfield 19, 3) := by decide +kernel
theorem dX6_comes_4 : decode cX6_comes 4 = .ok (.iload_n 1, 1) := by decide +kernel
theorem dX6_comes_5 : decode cX6_comes 5 = .ok (.invokevirtual 123, 3) := by decide +kernel
theorem dX6_comes_8 : decode cX6_comes 8 = .ok (.ifCond .ne 5, 3) := by decide +kernel
theorem dX6_comes_11 : decode cX6_comes 11 = .ok (.iconst (-1), 1) := by decide +kernel
theorem dX6_comes_12 : decode cX6_comes 12 = .ok (.ireturn, 1) := by decide +kernel
theorem dX6_comes_13 : decode cX6_comes 13 = .ok (.iload_n 2, 1) := by decide +kernel
theorem dX6_comes_14 : decode cX6_comes 14 = .ok (.iconst 1, 1) := by decide +kernel
theorem dX6_comes_15 : decode cX6_comes 15 = .ok (.bipush 7, 2) := by decide +kernel
theorem dX6_comes_17 : decode cX6_comes 17 = .ok (.invokestatic 62, 3) := by decide +kernel
theorem dX6_comes_20 : decode cX6_comes 20 = .ok (.ifCond .eq 10, 3) := by decide +kernel
theorem dX6_comes_23 : decode cX6_comes 23 = .ok (.iload_n 3, 1) := by decide +kernel
theorem dX6_comes_24 : decode cX6_comes 24 = .ok (.invokestatic 180, 3) := by decide +kernel
theorem dX6_comes_27 : decode cX6_comes 27 = .ok (.ifCond .ne 6, 3) := by decide +kernel
theorem dX6_comes_30 : decode cX6_comes 30 = .ok (.bipush (-2), 2) := by decide +kernel
theorem dX6_comes_32 : decode cX6_comes 32 = .ok (.ireturn, 1) := by decide +kernel
theorem dX6_comes_33 : decode cX6_comes 33 = .ok (.aload_n 0, 1) := by decide +kernel
theorem dX6_comes_34 : decode cX6_comes 34 = .ok (.getfield 26, 3) := by decide +kernel
theorem dX6_comes_37 : decode cX6_comes 37 = .ok (.iload_n 1, 1) := by decide +kernel
theorem dX6_comes_38 : decode cX6_comes 38 = .ok (.invokevirtual 141, 3) := by decide +kernel
theorem dX6_comes_41 : decode cX6_comes 41 = .ok (.ifCond .eq 6, 3) := by decide +kernel
theorem dX6_comes_44 : decode cX6_comes 44 = .ok (.bipush (-3), 2) := by decide +kernel
theorem dX6_comes_46 : decode cX6_comes 46 = .ok (.ireturn, 1) := by decide +kernel
theorem dX6_comes_47 : decode cX6_comes 47 = .ok (.iconst 1, 1) := by decide +kernel
theorem dX6_comes_48 : decode cX6_comes 48 = .ok (.istore 4, 2) := by decide +kernel
theorem dX6_comes_50 : decode cX6_comes 50 = .ok (.iload 4, 2) := by decide +kernel
theorem dX6_comes_52 : decode cX6_comes 52 = .ok (.iconst 4, 1) := by decide +kernel
theorem dX6_comes_53 : decode cX6_comes 53 = .ok (.if_icmp .gt 50, 3) := by decide +kernel
theorem dX6_comes_56 : decode cX6_comes 56 = .ok (.aload_n 0, 1) := by decide +kernel
theorem dX6_comes_57 : decode cX6_comes 57 = .ok (.getfield 19, 3) := by decide +kernel
theorem dX6_comes_60 : decode cX6_comes 60 = .ok (.iload_n 1, 1) := by decide +kernel
theorem dX6_comes_61 : decode cX6_comes 61 = .ok (.aload_n 0, 1) := by decide +kernel
theorem dX6_comes_62 : decode cX6_comes 62 = .ok (.getfield 26, 3) := by decide +kernel
theorem dX6_comes_65 : decode cX6_comes 65 = .ok (.iload_n 1, 1) := by decide +kernel
theorem dX6_comes_66 : decode cX6_comes 66 = .ok (.invokevirtual 132, 3) := by decide +kernel
theorem dX6_comes_69 : decode cX6_comes 69 = .ok (.iload_n 2, 1) := by decide +kernel
theorem dX6_comes_70 : decode cX6_comes 70 = .ok (.iconst 0, 1) := by decide +kernel
theorem dX6_comes_71 : decode cX6_comes 71 = .ok (.iload 4, 2) := by decide +kernel
theorem dX6_comes_73 : decode cX6_comes 73 = .ok (.invokestatic 183, 3) := by decide +kernel
theorem dX6_comes_76 : decode cX6_comes 76 = .ok (.istore 5, 2) := by decide +kernel
theorem dX6_comes_78 : decode cX6_comes 78 = .ok (.iload 5, 2) := by decide +kernel
theorem dX6_comes_80 : decode cX6_comes 80 = .ok (.bipush (-9), 2) := by decide +kernel
theorem dX6_comes_82 : decode cX6_comes 82 = .ok (.if_icmp .eq 15, 3) := by decide +kernel
theorem dX6_comes_85 : decode cX6_comes 85 = .ok (.iload_n 3, 1) := by decide +kernel
theorem dX6_comes_86 : decode cX6_comes 86 = .ok (.ifCond .ne 8, 3) := by decide +kernel
theorem dX6_comes_89 : decode cX6_comes 89 = .ok (.iload 4, 2) := by decide +kernel
theorem dX6_comes_91 : decode cX6_comes 91 = .ok (.goto 5, 3) := by decide +kernel
theorem dX6_comes_94 : decode cX6_comes 94 = .ok (.iload 5, 2) := by decide +kernel
theorem dX6_comes_96 : decode cX6_comes 96 = .ok (.ireturn, 1) := by decide +kernel
theorem dX6_comes_97 : decode cX6_comes 97 = .ok (.iinc 4 1, 3) := by decide +kernel
theorem dX6_comes_100 : decode cX6_comes 100 = .ok (.goto (-50), 3) := by decide +kernel
theorem dX6_comes_103 : decode cX6_comes 103 = .ok (.bipush (-9), 2) := by decide +kernel
theorem dX6_comes_105 : decode cX6_comes 105 = .ok (.ireturn, 1) := by decide +kernel
set_option maxRecDepth 20000 in
theorem ggX6_rounds_X1_hasGlove : GoodIn wsX6_rounds wsX1_hasGlove := goodIn_r _ [8, 9, 98, 99, 100, 101, 102, 103, 104, 105] (by decide +kernel) (by decide +kernel)
set_option maxRecDepth 20000 in
theorem gX6_rounds_X1_hasGlove : GoodIn wsX6_rounds (wsV RX6 123 RX1 yX1_hasGlove wsX1_hasGlove) := goodIn_app (goodIn_of _ (by decide +kernel)) ggX6_rounds_X1_hasGlove
set_option maxRecDepth 20000 in
theorem ggX6_rounds_X6_isChoice : GoodIn wsX6_rounds wsX6_isChoice := goodIn_r _ [13, 14, 15, 12, 16] (by decide +kernel) (by decide +kernel)
set_option maxRecDepth 20000 in
theorem gX6_rounds_X6_isChoice : GoodIn wsX6_rounds (va_wsS RX6 180 yX6_isChoice wsX6_isChoice) := goodIn_app (goodIn_of _ (by decide +kernel)) ggX6_rounds_X6_isChoice
set_option maxRecDepth 20000 in
theorem ggX6_rounds_X2_isWorn : GoodIn wsX6_rounds wsX2_isWorn := goodIn_r _ [21, 22, 23, 24, 20, 25, 26, 27, 12, 28, 106, 107, 108, 109] (by decide +kernel) (by decide +kernel)
set_option maxRecDepth 20000 in
theorem gX6_rounds_X2_isWorn : GoodIn wsX6_rounds (wsV RX6 141 RX2 yX2_isWorn wsX2_isWorn) := goodIn_app (goodIn_of _ (by decide +kernel)) ggX6_rounds_X2_isWorn
set_option maxRecDepth 20000 in
theorem ggX6_rounds_X4_start : GoodIn wsX6_rounds wsX4_start := goodIn_r _ [33, 34, 35, 110, 111] (by decide +kernel) (by decide +kernel)
set_option maxRecDepth 20000 in
theorem gX6_rounds_X4_start : GoodIn wsX6_rounds (wsV RX6 187 RX4 yX4_start wsX4_start) := goodIn_app (goodIn_of _ (by decide +kernel)) ggX6_rounds_X4_start
set_option maxRecDepth 20000 in
theorem ggX6_rounds_X2_keptBy : GoodIn wsX6_rounds wsX2_keptBy := goodIn_r _ [39, 40, 27, 12, 28, 106, 107, 108, 109] (by decide +kernel) (by decide +kernel)
set_option maxRecDepth 20000 in
theorem gX6_rounds_X2_keptBy : GoodIn wsX6_rounds (wsV RX6 132 RX2 yX2_keptBy wsX2_keptBy) := goodIn_app (goodIn_of _ (by decide +kernel)) ggX6_rounds_X2_keptBy
set_option maxRecDepth 20000 in
theorem ggX6_rounds_X1_people : GoodIn wsX6_rounds wsX1_people := goodIn_r _ [44, 45, 98, 99, 100, 101, 102, 103, 104, 105] (by decide +kernel) (by decide +kernel)
set_option maxRecDepth 20000 in
theorem gX6_rounds_X1_people : GoodIn wsX6_rounds (wsV RX6 92 RX1 yX1_people wsX1_people) := goodIn_app (goodIn_of _ (by decide +kernel)) ggX6_rounds_X1_people
set_option maxRecDepth 20000 in
theorem ggX6_rounds_X6_tallyRounds : GoodIn wsX6_rounds wsX6_tallyRounds := goodIn_r _ [48, 49, 50, 51, 32, 52, 34, 35, 41, 42, 43, 7, 44, 45, 53, 54, 55, 56, 57, 12, 58, 59, 60, 61, 62, 63, 27, 28, 64, 65, 66, 67, 68, 69, 70, 71, 72, 73, 74, 75, 76, 77, 78, 79, 80, 81, 82, 83, 84, 46, 47, 110, 111, 98, 99, 100, 101, 102, 103, 104, 105] (by decide +kernel) (by decide +kernel)
set_option maxRecDepth 20000 in
theorem gX6_rounds_X6_tallyRounds : GoodIn wsX6_rounds (va_wsS RX6 189 yX6_tallyRounds wsX6_tallyRounds) := goodIn_app (goodIn_of _ (by decide +kernel)) ggX6_rounds_X6_tallyRounds
set_option maxRecDepth 20000 in
theorem ggX6_rounds_X4_told : GoodIn wsX6_rounds wsX4_told := goodIn_r _ [88, 34, 35, 110, 111] (by decide +kernel) (by decide +kernel)
set_option maxRecDepth 20000 in
theorem gX6_rounds_X4_told : GoodIn wsX6_rounds (wsV RX6 193 RX4 yX4_told wsX4_told) := goodIn_app (goodIn_of _ (by decide +kernel)) ggX6_rounds_X4_told
theorem dX6_rounds_0 : decode cX6_rounds 0 = .ok (.aload_n 0, 1) := by decide +kernel
theorem dX6_rounds_1 : decode cX6_rounds 1 = .ok (.getfield 19, 3) := by decide +kernel
theorem dX6_rounds_4 : decode cX6_rounds 4 = .ok (.iload_n 1, 1) := by decide +kernel
theorem dX6_rounds_5 : decode cX6_rounds 5 = .ok (.invokevirtual 123, 3) := by decide +kernel
theorem dX6_rounds_8 : decode cX6_rounds 8 = .ok (.ifCond .ne 5, 3) := by decide +kernel
theorem dX6_rounds_11 : decode cX6_rounds 11 = .ok (.iconst (-1), 1) := by decide +kernel
theorem dX6_rounds_12 : decode cX6_rounds 12 = .ok (.ireturn, 1) := by decide +kernel
theorem dX6_rounds_13 : decode cX6_rounds 13 = .ok (.iload_n 2, 1) := by decide +kernel
theorem dX6_rounds_14 : decode cX6_rounds 14 = .ok (.invokestatic 180, 3) := by decide +kernel
theorem dX6_rounds_17 : decode cX6_rounds 17 = .ok (.ifCond .ne 6, 3) := by decide +kernel
theorem dX6_rounds_20 : decode cX6_rounds 20 = .ok (.bipush (-2), 2) := by decide +kernel
theorem dX6_rounds_22 : decode cX6_rounds 22 = .ok (.ireturn, 1) := by decide +kernel
theorem dX6_rounds_23 : decode cX6_rounds 23 = .ok (.aload_n 0, 1) := by decide +kernel
theorem dX6_rounds_24 : decode cX6_rounds 24 = .ok (.getfield 26, 3) := by decide +kernel
theorem dX6_rounds_27 : decode cX6_rounds 27 = .ok (.iload_n 1, 1) := by decide +kernel
theorem dX6_rounds_28 : decode cX6_rounds 28 = .ok (.invokevirtual 141, 3) := by decide +kernel
theorem dX6_rounds_31 : decode cX6_rounds 31 = .ok (.ifCond .eq 6, 3) := by decide +kernel
theorem dX6_rounds_34 : decode cX6_rounds 34 = .ok (.bipush (-3), 2) := by decide +kernel
theorem dX6_rounds_36 : decode cX6_rounds 36 = .ok (.ireturn, 1) := by decide +kernel
theorem dX6_rounds_37 : decode cX6_rounds 37 = .ok (.aload_n 0, 1) := by decide +kernel
theorem dX6_rounds_38 : decode cX6_rounds 38 = .ok (.getfield 50, 3) := by decide +kernel
theorem dX6_rounds_41 : decode cX6_rounds 41 = .ok (.invokevirtual 187, 3) := by decide +kernel
theorem dX6_rounds_44 : decode cX6_rounds 44 = .ok (.aload_n 0, 1) := by decide +kernel
theorem dX6_rounds_45 : decode cX6_rounds 45 = .ok (.getfield 19, 3) := by decide +kernel
theorem dX6_rounds_48 : decode cX6_rounds 48 = .ok (.aload_n 0, 1) := by decide +kernel
theorem dX6_rounds_49 : decode cX6_rounds 49 = .ok (.getfield 50, 3) := by decide +kernel
theorem dX6_rounds_52 : decode cX6_rounds 52 = .ok (.iload_n 1, 1) := by decide +kernel
theorem dX6_rounds_53 : decode cX6_rounds 53 = .ok (.aload_n 0, 1) := by decide +kernel
theorem dX6_rounds_54 : decode cX6_rounds 54 = .ok (.getfield 26, 3) := by decide +kernel
theorem dX6_rounds_57 : decode cX6_rounds 57 = .ok (.iload_n 1, 1) := by decide +kernel
theorem dX6_rounds_58 : decode cX6_rounds 58 = .ok (.invokevirtual 132, 3) := by decide +kernel
theorem dX6_rounds_61 : decode cX6_rounds 61 = .ok (.iconst (-1), 1) := by decide +kernel
theorem dX6_rounds_62 : decode cX6_rounds 62 = .ok (.iconst 0, 1) := by decide +kernel
theorem dX6_rounds_63 : decode cX6_rounds 63 = .ok (.aload_n 0, 1) := by decide +kernel
theorem dX6_rounds_64 : decode cX6_rounds 64 = .ok (.getfield 19, 3) := by decide +kernel
theorem dX6_rounds_67 : decode cX6_rounds 67 = .ok (.invokevirtual 92, 3) := by decide +kernel
theorem dX6_rounds_70 : decode cX6_rounds 70 = .ok (.invokestatic 189, 3) := by decide +kernel
theorem dX6_rounds_73 : decode cX6_rounds 73 = .ok (.aload_n 0, 1) := by decide +kernel
theorem dX6_rounds_74 : decode cX6_rounds 74 = .ok (.getfield 50, 3) := by decide +kernel
theorem dX6_rounds_77 : decode cX6_rounds 77 = .ok (.iload_n 2, 1) := by decide +kernel
theorem dX6_rounds_78 : decode cX6_rounds 78 = .ok (.invokevirtual 193, 3) := by decide +kernel
theorem dX6_rounds_81 : decode cX6_rounds 81 = .ok (.ireturn, 1) := by decide +kernel
set_option maxRecDepth 20000 in
theorem ggX6_givesAway_X1_hasGlove : GoodIn wsX6_givesAway wsX1_hasGlove := goodIn_r _ [7, 8, 64, 65, 66, 67, 68, 69, 70, 71] (by decide +kernel) (by decide +kernel)
set_option maxRecDepth 20000 in
theorem gX6_givesAway_X1_hasGlove : GoodIn wsX6_givesAway (wsV RX6 123 RX1 yX1_hasGlove wsX1_hasGlove) := goodIn_app (goodIn_of _ (by decide +kernel)) ggX6_givesAway_X1_hasGlove
set_option maxRecDepth 20000 in
theorem ggX6_givesAway_X2_isWorn : GoodIn wsX6_givesAway wsX2_isWorn := goodIn_r _ [13, 14, 15, 16, 12, 17, 18, 19, 20, 21, 72, 73, 74, 75] (by decide +kernel) (by decide +kernel)
set_option maxRecDepth 20000 in
theorem gX6_givesAway_X2_isWorn : GoodIn wsX6_givesAway (wsV RX6 141 RX2 yX2_isWorn wsX2_isWorn) := goodIn_app (goodIn_of _ (by decide +kernel)) ggX6_givesAway_X2_isWorn
set_option maxRecDepth 20000 in
theorem ggX6_givesAway_X1_people : GoodIn wsX6_givesAway wsX1_people := goodIn_r _ [25, 26, 64, 65, 66, 67, 68, 69, 70, 71] (by decide +kernel) (by decide +kernel)
set_option maxRecDepth 20000 in
theorem gX6_givesAway_X1_people : GoodIn wsX6_givesAway (wsV RX6 92 RX1 yX1_people wsX1_people) := goodIn_app (goodIn_of _ (by decide +kernel)) ggX6_givesAway_X1_people
set_option maxRecDepth 20000 in
theorem ggX6_givesAway_X2_keptBy : GoodIn wsX6_givesAway wsX2_keptBy := goodIn_r _ [30, 31, 19, 20, 21, 72, 73, 74, 75] (by decide +kernel) (by decide +kernel)
set_option maxRecDepth 20000 in
theorem gX6_givesAway_X2_keptBy : GoodIn wsX6_givesAway (wsV RX6 132 RX2 yX2_keptBy wsX2_keptBy) := goodIn_app (goodIn_of _ (by decide +kernel)) ggX6_givesAway_X2_keptBy
set_option maxRecDepth 20000 in
theorem ggX6_givesAway_X1_reply : GoodIn wsX6_givesAway wsX1_reply := goodIn_r _ [35, 36, 20, 37, 38, 39, 40, 6, 41, 42, 19, 21, 43, 44, 45, 46, 47, 48, 49, 64, 65, 66, 67, 68, 69, 70, 71] (by decide +kernel) (by decide +kernel)
set_option maxRecDepth 20000 in
theorem gX6_givesAway_X1_reply : GoodIn wsX6_givesAway (wsV RX6 151 RX1 yX1_reply wsX1_reply) := goodIn_app (goodIn_of _ (by decide +kernel)) ggX6_givesAway_X1_reply
set_option maxRecDepth 20000 in
theorem ggX6_givesAway_X1_ownOf : GoodIn wsX6_givesAway wsX1_ownOf := goodIn_r _ [48, 49, 19, 20, 21, 64, 65, 66, 67, 68, 69, 70, 71] (by decide +kernel) (by decide +kernel)
set_option maxRecDepth 20000 in
theorem gX6_givesAway_X1_ownOf : GoodIn wsX6_givesAway (wsV RX6 110 RX1 yX1_ownOf wsX1_ownOf) := goodIn_app (goodIn_of _ (by decide +kernel)) ggX6_givesAway_X1_ownOf
set_option maxRecDepth 20000 in
theorem ggX6_givesAway_X1_isSomeonesOwn : GoodIn wsX6_givesAway wsX1_isSomeonesOwn := goodIn_r _ [54, 26, 45, 46, 47, 6, 48, 49, 19, 20, 21, 64, 65, 66, 67, 68, 69, 70, 71] (by decide +kernel) (by decide +kernel)
set_option maxRecDepth 20000 in
theorem gX6_givesAway_X1_isSomeonesOwn : GoodIn wsX6_givesAway (wsV RX6 196 RX1 yX1_isSomeonesOwn wsX1_isSomeonesOwn) := goodIn_app (goodIn_of _ (by decide +kernel)) ggX6_givesAway_X1_isSomeonesOwn
theorem dX6_givesAway_0 : decode cX6_givesAway 0 = .ok (.aload_n 0, 1) := by decide +kernel
theorem dX6_givesAway_1 : decode cX6_givesAway 1 = .ok (.getfield 19, 3) := by decide +kernel
theorem dX6_givesAway_4 : decode cX6_givesAway 4 = .ok (.iload_n 1, 1) := by decide +kernel
theorem dX6_givesAway_5 : decode cX6_givesAway 5 = .ok (.invokevirtual 123, 3) := by decide +kernel
theorem dX6_givesAway_8 : decode cX6_givesAway 8 = .ok (.ifCond .ne 5, 3) := by decide +kernel
theorem dX6_givesAway_11 : decode cX6_givesAway 11 = .ok (.iconst (-1), 1) := by decide +kernel
theorem dX6_givesAway_12 : decode cX6_givesAway 12 = .ok (.ireturn, 1) := by decide +kernel
theorem dX6_givesAway_13 : decode cX6_givesAway 13 = .ok (.aload_n 0, 1) := by decide +kernel
theorem dX6_givesAway_14 : decode cX6_givesAway 14 = .ok (.getfield 26, 3) := by decide +kernel
theorem dX6_givesAway_17 : decode cX6_givesAway 17 = .ok (.iload_n 1, 1) := by decide +kernel
theorem dX6_givesAway_18 : decode cX6_givesAway 18 = .ok (.invokevirtual 141, 3) := by decide +kernel
theorem dX6_givesAway_21 : decode cX6_givesAway 21 = .ok (.ifCond .eq 6, 3) := by decide +kernel
theorem dX6_givesAway_24 : decode cX6_givesAway 24 = .ok (.bipush (-3), 2) := by decide +kernel
theorem dX6_givesAway_26 : decode cX6_givesAway 26 = .ok (.ireturn, 1) := by decide +kernel
theorem dX6_givesAway_27 : decode cX6_givesAway 27 = .ok (.iconst 0, 1) := by decide +kernel
theorem dX6_givesAway_28 : decode cX6_givesAway 28 = .ok (.istore_n 2, 1) := by decide +kernel
theorem dX6_givesAway_29 : decode cX6_givesAway 29 = .ok (.iconst 0, 1) := by decide +kernel
theorem dX6_givesAway_30 : decode cX6_givesAway 30 = .ok (.istore_n 3, 1) := by decide +kernel
theorem dX6_givesAway_31 : decode cX6_givesAway 31 = .ok (.iload_n 3, 1) := by decide +kernel
theorem dX6_givesAway_32 : decode cX6_givesAway 32 = .ok (.aload_n 0, 1) := by decide +kernel
theorem dX6_givesAway_33 : decode cX6_givesAway 33 = .ok (.getfield 19, 3) := by decide +kernel
theorem dX6_givesAway_36 : decode cX6_givesAway 36 = .ok (.invokevirtual 92, 3) := by decide +kernel
theorem dX6_givesAway_39 : decode cX6_givesAway 39 = .ok (.if_icmp .ge 59, 3) := by decide +kernel
theorem dX6_givesAway_42 : decode cX6_givesAway 42 = .ok (.aload_n 0, 1) := by decide +kernel
theorem dX6_givesAway_43 : decode cX6_givesAway 43 = .ok (.getfield 19, 3) := by decide +kernel
theorem dX6_givesAway_46 : decode cX6_givesAway 46 = .ok (.iload_n 1, 1) := by decide +kernel
theorem dX6_givesAway_47 : decode cX6_givesAway 47 = .ok (.aload_n 0, 1) := by decide +kernel
theorem dX6_givesAway_48 : decode cX6_givesAway 48 = .ok (.getfield 26, 3) := by decide +kernel
theorem dX6_givesAway_51 : decode cX6_givesAway 51 = .ok (.iload_n 1, 1) := by decide +kernel
theorem dX6_givesAway_52 : decode cX6_givesAway 52 = .ok (.invokevirtual 132, 3) := by decide +kernel
theorem dX6_givesAway_55 : decode cX6_givesAway 55 = .ok (.iload_n 3, 1) := by decide +kernel
theorem dX6_givesAway_56 : decode cX6_givesAway 56 = .ok (.invokevirtual 151, 3) := by decide +kernel
theorem dX6_givesAway_59 : decode cX6_givesAway 59 = .ok (.istore 4, 2) := by decide +kernel
theorem dX6_givesAway_61 : decode cX6_givesAway 61 = .ok (.iload 4, 2) := by decide +kernel
theorem dX6_givesAway_63 : decode cX6_givesAway 63 = .ok (.aload_n 0, 1) := by decide +kernel
theorem dX6_givesAway_64 : decode cX6_givesAway 64 = .ok (.getfield 19, 3) := by decide +kernel
theorem dX6_givesAway_67 : decode cX6_givesAway 67 = .ok (.iload_n 3, 1) := by decide +kernel
theorem dX6_givesAway_68 : decode cX6_givesAway 68 = .ok (.invokevirtual 110, 3) := by decide +kernel
theorem dX6_givesAway_71 : decode cX6_givesAway 71 = .ok (.if_icmp .eq 21, 3) := by decide +kernel
theorem dX6_givesAway_74 : decode cX6_givesAway 74 = .ok (.aload_n 0, 1) := by decide +kernel
theorem dX6_givesAway_75 : decode cX6_givesAway 75 = .ok (.getfield 19, 3) := by decide +kernel
theorem dX6_givesAway_78 : decode cX6_givesAway 78 = .ok (.iload 4, 2) := by decide +kernel
theorem dX6_givesAway_80 : decode cX6_givesAway 80 = .ok (.invokevirtual 196, 3) := by decide +kernel
theorem dX6_givesAway_83 : decode cX6_givesAway 83 = .ok (.ifCond .eq 9, 3) := by decide +kernel
theorem dX6_givesAway_86 : decode cX6_givesAway 86 = .ok (.iload_n 2, 1) := by decide +kernel
theorem dX6_givesAway_87 : decode cX6_givesAway 87 = .ok (.iconst 1, 1) := by decide +kernel
theorem dX6_givesAway_88 : decode cX6_givesAway 88 = .ok (.iload_n 3, 1) := by decide +kernel
theorem dX6_givesAway_89 : decode cX6_givesAway 89 = .ok (.ishl, 1) := by decide +kernel
theorem dX6_givesAway_90 : decode cX6_givesAway 90 = .ok (.ior, 1) := by decide +kernel
theorem dX6_givesAway_91 : decode cX6_givesAway 91 = .ok (.istore_n 2, 1) := by decide +kernel
theorem dX6_givesAway_92 : decode cX6_givesAway 92 = .ok (.iinc 3 1, 3) := by decide +kernel
theorem dX6_givesAway_95 : decode cX6_givesAway 95 = .ok (.goto (-64), 3) := by decide +kernel
theorem dX6_givesAway_98 : decode cX6_givesAway 98 = .ok (.iload_n 2, 1) := by decide +kernel
theorem dX6_givesAway_99 : decode cX6_givesAway 99 = .ok (.ireturn, 1) := by decide +kernel
set_option maxRecDepth 20000 in
theorem ggX6_leftBy_X1_hasGlove : GoodIn wsX6_leftBy wsX1_hasGlove := goodIn_r _ [6, 7, 40, 41, 42, 43, 44, 45, 46, 47] (by decide +kernel) (by decide +kernel)
set_option maxRecDepth 20000 in
theorem gX6_leftBy_X1_hasGlove : GoodIn wsX6_leftBy (wsV RX6 123 RX1 yX1_hasGlove wsX1_hasGlove) := goodIn_app (goodIn_of _ (by decide +kernel)) ggX6_leftBy_X1_hasGlove
set_option maxRecDepth 20000 in
theorem ggX6_leftBy_X6_within : GoodIn wsX6_leftBy wsX6_within := goodIn_r _ [11] (by decide +kernel) (by decide +kernel)
set_option maxRecDepth 20000 in
theorem gX6_leftBy_X6_within : GoodIn wsX6_leftBy (va_wsS RX6 62 yX6_within wsX6_within) := goodIn_app (goodIn_of _ (by decide +kernel)) ggX6_leftBy_X6_within
set_option maxRecDepth 20000 in
theorem ggX6_leftBy_X6_lastAfterWashes : GoodIn wsX6_leftBy wsX6_lastAfterWashes := goodIn_r _ [15, 16, 17, 18, 19, 20, 21, 22, 23, 10, 24, 25, 26, 27, 28, 29, 30, 31, 32, 33, 34, 35, 36, 37, 38, 39, 48, 49, 50, 51] (by decide +kernel) (by decide +kernel)
set_option maxRecDepth 20000 in
theorem gX6_leftBy_X6_lastAfterWashes : GoodIn wsX6_leftBy (wsV RX6 199 RX6 yX6_lastAfterWashes wsX6_lastAfterWashes) := goodIn_app (goodIn_of _ (by decide +kernel)) ggX6_leftBy_X6_lastAfterWashes
theorem dX6_leftBy_0 : decode cX6_leftBy 0 = .ok (.aload_n 0, 1) := by decide +kernel
theorem dX6_leftBy_1 : decode cX6_leftBy 1 = .ok (.getfield 19, 3) := by decide +kernel
theorem dX6_leftBy_4 : decode cX6_leftBy 4 = .ok (.iload_n 1, 1) := by decide +kernel
theorem dX6_leftBy_5 : decode cX6_leftBy 5 = .ok (.invokevirtual 123, 3) := by decide +kernel
theorem dX6_leftBy_8 : decode cX6_leftBy 8 = .ok (.ifCond .ne 5, 3) := by decide +kernel
theorem dX6_leftBy_11 : decode cX6_leftBy 11 = .ok (.iconst (-1), 1) := by decide +kernel
theorem dX6_leftBy_12 : decode cX6_leftBy 12 = .ok (.ireturn, 1) := by decide +kernel
theorem dX6_leftBy_13 : decode cX6_leftBy 13 = .ok (.iload_n 2, 1) := by decide +kernel
theorem dX6_leftBy_14 : decode cX6_leftBy 14 = .ok (.iconst 0, 1) := by decide +kernel
theorem dX6_leftBy_15 : decode cX6_leftBy 15 = .ok (.iconst 3, 1) := by decide +kernel
theorem dX6_leftBy_16 : decode cX6_leftBy 16 = .ok (.invokestatic 62, 3) := by decide +kernel
theorem dX6_leftBy_19 : decode cX6_leftBy 19 = .ok (.ifCond .ne 6, 3) := by decide +kernel
theorem dX6_leftBy_22 : decode cX6_leftBy 22 = .ok (.bipush (-2), 2) := by decide +kernel
theorem dX6_leftBy_24 : decode cX6_leftBy 24 = .ok (.ireturn, 1) := by decide +kernel
theorem dX6_leftBy_25 : decode cX6_leftBy 25 = .ok (.aload_n 0, 1) := by decide +kernel
theorem dX6_leftBy_26 : decode cX6_leftBy 26 = .ok (.iload_n 1, 1) := by decide +kernel
theorem dX6_leftBy_27 : decode cX6_leftBy 27 = .ok (.iload_n 2, 1) := by decide +kernel
theorem dX6_leftBy_28 : decode cX6_leftBy 28 = .ok (.invokevirtual 199, 3) := by decide +kernel
theorem dX6_leftBy_31 : decode cX6_leftBy 31 = .ok (.ireturn, 1) := by decide +kernel
set_option maxRecDepth 20000 in
theorem ggX6_washes_X1_hasGlove : GoodIn wsX6_washes wsX1_hasGlove := goodIn_r _ [6, 7, 40, 41, 42, 43, 44, 45, 46, 47] (by decide +kernel) (by decide +kernel)
set_option maxRecDepth 20000 in
theorem gX6_washes_X1_hasGlove : GoodIn wsX6_washes (wsV RX6 123 RX1 yX1_hasGlove wsX1_hasGlove) := goodIn_app (goodIn_of _ (by decide +kernel)) ggX6_washes_X1_hasGlove
set_option maxRecDepth 20000 in
theorem ggX6_washes_X6_within : GoodIn wsX6_washes wsX6_within := goodIn_r _ [11] (by decide +kernel) (by decide +kernel)
set_option maxRecDepth 20000 in
theorem gX6_washes_X6_within : GoodIn wsX6_washes (va_wsS RX6 62 yX6_within wsX6_within) := goodIn_app (goodIn_of _ (by decide +kernel)) ggX6_washes_X6_within
set_option maxRecDepth 20000 in
theorem ggX6_washes_X6_lastAfterWashes : GoodIn wsX6_washes wsX6_lastAfterWashes := goodIn_r _ [15, 16, 17, 18, 19, 20, 21, 22, 23, 10, 24, 25, 26, 27, 28, 29, 30, 31, 32, 33, 34, 35, 36, 37, 38, 39, 48, 49, 50, 51] (by decide +kernel) (by decide +kernel)
set_option maxRecDepth 20000 in
theorem gX6_washes_X6_lastAfterWashes : GoodIn wsX6_washes (wsV RX6 199 RX6 yX6_lastAfterWashes wsX6_lastAfterWashes) := goodIn_app (goodIn_of _ (by decide +kernel)) ggX6_washes_X6_lastAfterWashes
theorem dX6_washes_0 : decode cX6_washes 0 = .ok (.aload_n 0, 1) := by decide +kernel
theorem dX6_washes_1 : decode cX6_washes 1 = .ok (.getfield 19, 3) := by decide +kernel
theorem dX6_washes_4 : decode cX6_washes 4 = .ok (.iload_n 1, 1) := by decide +kernel
theorem dX6_washes_5 : decode cX6_washes 5 = .ok (.invokevirtual 123, 3) := by decide +kernel
theorem dX6_washes_8 : decode cX6_washes 8 = .ok (.ifCond .ne 5, 3) := by decide +kernel
theorem dX6_washes_11 : decode cX6_washes 11 = .ok (.iconst (-1), 1) := by decide +kernel
theorem dX6_washes_12 : decode cX6_washes 12 = .ok (.ireturn, 1) := by decide +kernel
theorem dX6_washes_13 : decode cX6_washes 13 = .ok (.iload_n 2, 1) := by decide +kernel
theorem dX6_washes_14 : decode cX6_washes 14 = .ok (.iconst 0, 1) := by decide +kernel
theorem dX6_washes_15 : decode cX6_washes 15 = .ok (.bipush 7, 2) := by decide +kernel
theorem dX6_washes_17 : decode cX6_washes 17 = .ok (.invokestatic 62, 3) := by decide +kernel
theorem dX6_washes_20 : decode cX6_washes 20 = .ok (.ifCond .ne 6, 3) := by decide +kernel
theorem dX6_washes_23 : decode cX6_washes 23 = .ok (.bipush (-2), 2) := by decide +kernel
theorem dX6_washes_25 : decode cX6_washes 25 = .ok (.ireturn, 1) := by decide +kernel
theorem dX6_washes_26 : decode cX6_washes 26 = .ok (.iconst 0, 1) := by decide +kernel
theorem dX6_washes_27 : decode cX6_washes 27 = .ok (.istore_n 3, 1) := by decide +kernel
theorem dX6_washes_28 : decode cX6_washes 28 = .ok (.iload_n 3, 1) := by decide +kernel
theorem dX6_washes_29 : decode cX6_washes 29 = .ok (.iconst 3, 1) := by decide +kernel
theorem dX6_washes_30 : decode cX6_washes 30 = .ok (.if_icmp .gt 21, 3) := by decide +kernel
theorem dX6_washes_33 : decode cX6_washes 33 = .ok (.aload_n 0, 1) := by decide +kernel
theorem dX6_washes_34 : decode cX6_washes 34 = .ok (.iload_n 1, 1) := by decide +kernel
theorem dX6_washes_35 : decode cX6_washes 35 = .ok (.iload_n 3, 1) := by decide +kernel
theorem dX6_washes_36 : decode cX6_washes 36 = .ok (.invokevirtual 199, 3) := by decide +kernel
theorem dX6_washes_39 : decode cX6_washes 39 = .ok (.iload_n 2, 1) := by decide +kernel
theorem dX6_washes_40 : decode cX6_washes 40 = .ok (.if_icmp .ne 5, 3) := by decide +kernel
theorem dX6_washes_43 : decode cX6_washes 43 = .ok (.iload_n 3, 1) := by decide +kernel
theorem dX6_washes_44 : decode cX6_washes 44 = .ok (.ireturn, 1) := by decide +kernel
theorem dX6_washes_45 : decode cX6_washes 45 = .ok (.iinc 3 1, 3) := by decide +kernel
theorem dX6_washes_48 : decode cX6_washes 48 = .ok (.goto (-20), 3) := by decide +kernel
theorem dX6_washes_51 : decode cX6_washes 51 = .ok (.bipush (-9), 2) := by decide +kernel
theorem dX6_washes_53 : decode cX6_washes 53 = .ok (.ireturn, 1) := by decide +kernel
set_option maxRecDepth 20000 in
theorem ggX6_both_X1_hasGlove : GoodIn wsX6_both wsX1_hasGlove := goodIn_r _ [6, 7, 34, 35, 36, 37, 38, 39, 40, 41] (by decide +kernel) (by decide +kernel)
set_option maxRecDepth 20000 in
theorem gX6_both_X1_hasGlove : GoodIn wsX6_both (wsV RX6 123 RX1 yX1_hasGlove wsX1_hasGlove) := goodIn_app (goodIn_of _ (by decide +kernel)) ggX6_both_X1_hasGlove
set_option maxRecDepth 20000 in
theorem ggX6_both_X6_secretOf : GoodIn wsX6_both wsX6_secretOf := goodIn_r _ [12, 13, 14, 15, 16, 17, 18, 19, 20, 11, 21, 22, 23, 24, 25, 26, 27, 28, 29, 30, 31, 32, 33, 42, 43, 44, 45] (by decide +kernel) (by decide +kernel)
set_option maxRecDepth 20000 in
theorem gX6_both_X6_secretOf : GoodIn wsX6_both (wsV RX6 203 RX6 yX6_secretOf wsX6_secretOf) := goodIn_app (goodIn_of _ (by decide +kernel)) ggX6_both_X6_secretOf
theorem dX6_both_0 : decode cX6_both 0 = .ok (.aload_n 0, 1) := by decide +kernel
theorem dX6_both_1 : decode cX6_both 1 = .ok (.getfield 19, 3) := by decide +kernel
theorem dX6_both_4 : decode cX6_both 4 = .ok (.iload_n 1, 1) := by decide +kernel
theorem dX6_both_5 : decode cX6_both 5 = .ok (.invokevirtual 123, 3) := by decide +kernel
theorem dX6_both_8 : decode cX6_both 8 = .ok (.ifCond .eq 14, 3) := by decide +kernel
theorem dX6_both_11 : decode cX6_both 11 = .ok (.aload_n 0, 1) := by decide +kernel
theorem dX6_both_12 : decode cX6_both 12 = .ok (.getfield 19, 3) := by decide +kernel
theorem dX6_both_15 : decode cX6_both 15 = .ok (.iload_n 2, 1) := by decide +kernel
theorem dX6_both_16 : decode cX6_both 16 = .ok (.invokevirtual 123, 3) := by decide +kernel
theorem dX6_both_19 : decode cX6_both 19 = .ok (.ifCond .ne 5, 3) := by decide +kernel
theorem dX6_both_22 : decode cX6_both 22 = .ok (.iconst (-1), 1) := by decide +kernel
theorem dX6_both_23 : decode cX6_both 23 = .ok (.ireturn, 1) := by decide +kernel
theorem dX6_both_24 : decode cX6_both 24 = .ok (.aload_n 0, 1) := by decide +kernel
theorem dX6_both_25 : decode cX6_both 25 = .ok (.iload_n 1, 1) := by decide +kernel
theorem dX6_both_26 : decode cX6_both 26 = .ok (.iload_n 2, 1) := by decide +kernel
theorem dX6_both_27 : decode cX6_both 27 = .ok (.invokevirtual 203, 3) := by decide +kernel
theorem dX6_both_30 : decode cX6_both 30 = .ok (.ireturn, 1) := by decide +kernel
set_option maxRecDepth 20000 in
theorem ggX6_either_X1_hasGlove : GoodIn wsX6_either wsX1_hasGlove := goodIn_r _ [7, 8, 34, 35, 36, 37, 38, 39, 40, 41] (by decide +kernel) (by decide +kernel)
set_option maxRecDepth 20000 in
theorem gX6_either_X1_hasGlove : GoodIn wsX6_either (wsV RX6 123 RX1 yX1_hasGlove wsX1_hasGlove) := goodIn_app (goodIn_of _ (by decide +kernel)) ggX6_either_X1_hasGlove
set_option maxRecDepth 20000 in
theorem ggX6_either_X6_secretOf : GoodIn wsX6_either wsX6_secretOf := goodIn_r _ [13, 2, 14, 15, 16, 17, 18, 19, 20, 12, 21, 22, 23, 24, 25, 26, 27, 28, 29, 30, 31, 32, 33, 42, 43, 44, 45] (by decide +kernel) (by decide +kernel)
set_option maxRecDepth 20000 in
theorem gX6_either_X6_secretOf : GoodIn wsX6_either (wsV RX6 203 RX6 yX6_secretOf wsX6_secretOf) := goodIn_app (goodIn_of _ (by decide +kernel)) ggX6_either_X6_secretOf
set_option maxRecDepth 20000 in
theorem ggX6_either_X2_keptBy : GoodIn wsX6_either wsX2_keptBy := goodIn_r _ [18, 19, 20, 12, 21, 42, 43, 44, 45] (by decide +kernel) (by decide +kernel)
set_option maxRecDepth 20000 in
theorem gX6_either_X2_keptBy : GoodIn wsX6_either (wsV RX6 132 RX2 yX2_keptBy wsX2_keptBy) := goodIn_app (goodIn_of _ (by decide +kernel)) ggX6_either_X2_keptBy
set_option maxRecDepth 20000 in
theorem ggX6_either_X6_lastOf : GoodIn wsX6_either wsX6_lastOf := goodIn_r _ [24] (by decide +kernel) (by decide +kernel)
set_option maxRecDepth 20000 in
theorem gX6_either_X6_lastOf : GoodIn wsX6_either (va_wsS RX6 164 yX6_lastOf wsX6_lastOf) := goodIn_app (goodIn_of _ (by decide +kernel)) ggX6_either_X6_lastOf
theorem dX6_either_0 : decode cX6_either 0 = .ok (.aload_n 0, 1) := by decide +kernel
theorem dX6_either_1 : decode cX6_either 1 = .ok (.getfield 19, 3) := by decide +kernel
theorem dX6_either_4 : decode cX6_either 4 = .ok (.iload_n 1, 1) := by decide +kernel
theorem dX6_either_5 : decode cX6_either 5 = .ok (.invokevirtual 123, 3) := by decide +kernel
theorem dX6_either_8 : decode cX6_either 8 = .ok (.ifCond .eq 14, 3) := by decide +kernel
theorem dX6_either_11 : decode cX6_either 11 = .ok (.aload_n 0, 1) := by decide +kernel
theorem dX6_either_12 : decode cX6_either 12 = .ok (.getfield 19, 3) := by decide +kernel
theorem dX6_either_15 : decode cX6_either 15 = .ok (.iload_n 2, 1) := by decide +kernel
theorem dX6_either_16 : decode cX6_either 16 = .ok (.invokevirtual 123, 3) := by decide +kernel
theorem dX6_either_19 : decode cX6_either 19 = .ok (.ifCond .ne 5, 3) := by decide +kernel
theorem dX6_either_22 : decode cX6_either 22 = .ok (.iconst (-1), 1) := by decide +kernel
theorem dX6_either_23 : decode cX6_either 23 = .ok (.ireturn, 1) := by decide +kernel
theorem dX6_either_24 : decode cX6_either 24 = .ok (.aload_n 0, 1) := by decide +kernel
theorem dX6_either_25 : decode cX6_either 25 = .ok (.iload_n 1, 1) := by decide +kernel
theorem dX6_either_26 : decode cX6_either 26 = .ok (.iload_n 2, 1) := by decide +kernel
theorem dX6_either_27 : decode cX6_either 27 = .ok (.invokevirtual 203, 3) := by decide +kernel
theorem dX6_either_30 : decode cX6_either 30 = .ok (.istore_n 3, 1) := by decide +kernel
theorem dX6_either_31 : decode cX6_either 31 = .ok (.aload_n 0, 1) := by decide +kernel
theorem dX6_either_32 : decode cX6_either 32 = .ok (.getfield 26, 3) := by decide +kernel
theorem dX6_either_35 : decode cX6_either 35 = .ok (.iload_n 1, 1) := by decide +kernel
theorem dX6_either_36 : decode cX6_either 36 = .ok (.invokevirtual 132, 3) := by decide +kernel
theorem dX6_either_39 : decode cX6_either 39 = .ok (.invokestatic 164, 3) := by decide +kernel
theorem dX6_either_42 : decode cX6_either 42 = .ok (.iload_n 3, 1) := by decide +kernel
theorem dX6_either_43 : decode cX6_either 43 = .ok (.if_icmp .eq 18, 3) := by decide +kernel
theorem dX6_either_46 : decode cX6_either 46 = .ok (.aload_n 0, 1) := by decide +kernel
theorem dX6_either_47 : decode cX6_either 47 = .ok (.getfield 26, 3) := by decide +kernel
theorem dX6_either_50 : decode cX6_either 50 = .ok (.iload_n 2, 1) := by decide +kernel
theorem dX6_either_51 : decode cX6_either 51 = .ok (.invokevirtual 132, 3) := by decide +kernel
theorem dX6_either_54 : decode cX6_either 54 = .ok (.invokestatic 164, 3) := by decide +kernel
theorem dX6_either_57 : decode cX6_either 57 = .ok (.iload_n 3, 1) := by decide +kernel
theorem dX6_either_58 : decode cX6_either 58 = .ok (.if_icmp .ne 7, 3) := by decide +kernel
theorem dX6_either_61 : decode cX6_either 61 = .ok (.iconst 1, 1) := by decide +kernel
theorem dX6_either_62 : decode cX6_either 62 = .ok (.goto 4, 3) := by decide +kernel
theorem dX6_either_65 : decode cX6_either 65 = .ok (.iconst 0, 1) := by decide +kernel
theorem dX6_either_66 : decode cX6_either 66 = .ok (.istore 4, 2) := by decide +kernel
theorem dX6_either_68 : decode cX6_either 68 = .ok (.iload 4, 2) := by decide +kernel
theorem dX6_either_70 : decode cX6_either 70 = .ok (.ifCond .eq 7, 3) := by decide +kernel
theorem dX6_either_73 : decode cX6_either 73 = .ok (.iconst 1, 1) := by decide +kernel
theorem dX6_either_74 : decode cX6_either 74 = .ok (.goto 4, 3) := by decide +kernel
theorem dX6_either_77 : decode cX6_either 77 = .ok (.iconst 0, 1) := by decide +kernel
theorem dX6_either_78 : decode cX6_either 78 = .ok (.ireturn, 1) := by decide +kernel
set_option maxRecDepth 20000 in
theorem ggX6_see_X1_hasGlove : GoodIn wsX6_see wsX1_hasGlove := goodIn_r _ [7, 8, 42, 43, 44, 45, 46, 47, 48, 49] (by decide +kernel) (by decide +kernel)
set_option maxRecDepth 20000 in
theorem gX6_see_X1_hasGlove : GoodIn wsX6_see (wsV RX6 123 RX1 yX1_hasGlove wsX1_hasGlove) := goodIn_app (goodIn_of _ (by decide +kernel)) ggX6_see_X1_hasGlove
set_option maxRecDepth 20000 in
theorem ggX6_see_X1_hasPerson : GoodIn wsX6_see wsX1_hasPerson := goodIn_r _ [12, 13, 42, 43, 44, 45, 46, 47, 48, 49] (by decide +kernel) (by decide +kernel)
set_option maxRecDepth 20000 in
theorem gX6_see_X1_hasPerson : GoodIn wsX6_see (wsV RX6 106 RX1 yX1_hasPerson wsX1_hasPerson) := goodIn_app (goodIn_of _ (by decide +kernel)) ggX6_see_X1_hasPerson
set_option maxRecDepth 20000 in
theorem ggX6_see_X6_within : GoodIn wsX6_see wsX6_within := goodIn_r _ [17] (by decide +kernel) (by decide +kernel)
set_option maxRecDepth 20000 in
theorem gX6_see_X6_within : GoodIn wsX6_see (va_wsS RX6 62 yX6_within wsX6_within) := goodIn_app (goodIn_of _ (by decide +kernel)) ggX6_see_X6_within
set_option maxRecDepth 20000 in
theorem ggX6_see_X3_size : GoodIn wsX6_see wsX3_size := goodIn_r _ [22, 23, 50, 51, 52, 53] (by decide +kernel) (by decide +kernel)
set_option maxRecDepth 20000 in
theorem gX6_see_X3_size : GoodIn wsX6_see (wsV RX6 105 RX3 yX3_size wsX3_size) := goodIn_app (goodIn_of _ (by decide +kernel)) ggX6_see_X3_size
set_option maxRecDepth 20000 in
theorem ggX6_see_X3_add : GoodIn wsX6_see wsX3_add := goodIn_r _ [27, 23, 28, 29, 30, 31, 16, 32, 50, 51, 52, 53] (by decide +kernel) (by decide +kernel)
set_option maxRecDepth 20000 in
theorem gX6_see_X3_add : GoodIn wsX6_see (wsV RX6 206 RX3 yX3_add wsX3_add) := goodIn_app (goodIn_of _ (by decide +kernel)) ggX6_see_X3_add
theorem dX6_see_0 : decode cX6_see 0 = .ok (.aload_n 0, 1) := by decide +kernel
theorem dX6_see_1 : decode cX6_see 1 = .ok (.getfield 19, 3) := by decide +kernel
theorem dX6_see_4 : decode cX6_see 4 = .ok (.iload_n 1, 1) := by decide +kernel
theorem dX6_see_5 : decode cX6_see 5 = .ok (.invokevirtual 123, 3) := by decide +kernel
theorem dX6_see_8 : decode cX6_see 8 = .ok (.ifCond .eq 14, 3) := by decide +kernel
theorem dX6_see_11 : decode cX6_see 11 = .ok (.aload_n 0, 1) := by decide +kernel
theorem dX6_see_12 : decode cX6_see 12 = .ok (.getfield 19, 3) := by decide +kernel
theorem dX6_see_15 : decode cX6_see 15 = .ok (.iload_n 2, 1) := by decide +kernel
theorem dX6_see_16 : decode cX6_see 16 = .ok (.invokevirtual 106, 3) := by decide +kernel
theorem dX6_see_19 : decode cX6_see 19 = .ok (.ifCond .ne 5, 3) := by decide +kernel
theorem dX6_see_22 : decode cX6_see 22 = .ok (.iconst (-1), 1) := by decide +kernel
theorem dX6_see_23 : decode cX6_see 23 = .ok (.ireturn, 1) := by decide +kernel
theorem dX6_see_24 : decode cX6_see 24 = .ok (.iload_n 3, 1) := by decide +kernel
theorem dX6_see_25 : decode cX6_see 25 = .ok (.iconst 0, 1) := by decide +kernel
theorem dX6_see_26 : decode cX6_see 26 = .ok (.bipush 7, 2) := by decide +kernel
theorem dX6_see_28 : decode cX6_see 28 = .ok (.invokestatic 62, 3) := by decide +kernel
theorem dX6_see_31 : decode cX6_see 31 = .ok (.ifCond .ne 6, 3) := by decide +kernel
theorem dX6_see_34 : decode cX6_see 34 = .ok (.bipush (-2), 2) := by decide +kernel
theorem dX6_see_36 : decode cX6_see 36 = .ok (.ireturn, 1) := by decide +kernel
theorem dX6_see_37 : decode cX6_see 37 = .ok (.aload_n 0, 1) := by decide +kernel
theorem dX6_see_38 : decode cX6_see 38 = .ok (.getfield 43, 3) := by decide +kernel
theorem dX6_see_41 : decode cX6_see 41 = .ok (.invokevirtual 105, 3) := by decide +kernel
theorem dX6_see_44 : decode cX6_see 44 = .ok (.iconst 4, 1) := by decide +kernel
theorem dX6_see_45 : decode cX6_see 45 = .ok (.if_icmp .lt 6, 3) := by decide +kernel
theorem dX6_see_48 : decode cX6_see 48 = .ok (.bipush (-4), 2) := by decide +kernel
theorem dX6_see_50 : decode cX6_see 50 = .ok (.ireturn, 1) := by decide +kernel
theorem dX6_see_51 : decode cX6_see 51 = .ok (.aload_n 0, 1) := by decide +kernel
theorem dX6_see_52 : decode cX6_see 52 = .ok (.getfield 43, 3) := by decide +kernel
theorem dX6_see_55 : decode cX6_see 55 = .ok (.iload_n 1, 1) := by decide +kernel
theorem dX6_see_56 : decode cX6_see 56 = .ok (.iload_n 2, 1) := by decide +kernel
theorem dX6_see_57 : decode cX6_see 57 = .ok (.iload_n 3, 1) := by decide +kernel
theorem dX6_see_58 : decode cX6_see 58 = .ok (.invokevirtual 206, 3) := by decide +kernel
theorem dX6_see_61 : decode cX6_see 61 = .ok (.aload_n 0, 1) := by decide +kernel
theorem dX6_see_62 : decode cX6_see 62 = .ok (.getfield 43, 3) := by decide +kernel
theorem dX6_see_65 : decode cX6_see 65 = .ok (.invokevirtual 105, 3) := by decide +kernel
theorem dX6_see_68 : decode cX6_see 68 = .ok (.ireturn, 1) := by decide +kernel
set_option maxRecDepth 20000 in
theorem ggX6_unsee_X3_size : GoodIn wsX6_unsee wsX3_size := goodIn_r _ [6, 7, 21, 22, 23, 24] (by decide +kernel) (by decide +kernel)
set_option maxRecDepth 20000 in
theorem gX6_unsee_X3_size : GoodIn wsX6_unsee (wsV RX6 105 RX3 yX3_size wsX3_size) := goodIn_app (goodIn_of _ (by decide +kernel)) ggX6_unsee_X3_size
set_option maxRecDepth 20000 in
theorem ggX6_unsee_X3_clear : GoodIn wsX6_unsee wsX3_clear := goodIn_r _ [11, 7, 21, 22, 23, 24] (by decide +kernel) (by decide +kernel)
set_option maxRecDepth 20000 in
theorem gX6_unsee_X3_clear : GoodIn wsX6_unsee (wsV RX6 209 RX3 yX3_clear wsX3_clear) := goodIn_app (goodIn_of _ (by decide +kernel)) ggX6_unsee_X3_clear
theorem dX6_unsee_0 : decode cX6_unsee 0 = .ok (.aload_n 0, 1) := by decide +kernel
theorem dX6_unsee_1 : decode cX6_unsee 1 = .ok (.getfield 43, 3) := by decide +kernel
theorem dX6_unsee_4 : decode cX6_unsee 4 = .ok (.invokevirtual 105, 3) := by decide +kernel
theorem dX6_unsee_7 : decode cX6_unsee 7 = .ok (.istore_n 1, 1) := by decide +kernel
theorem dX6_unsee_8 : decode cX6_unsee 8 = .ok (.aload_n 0, 1) := by decide +kernel
theorem dX6_unsee_9 : decode cX6_unsee 9 = .ok (.getfield 43, 3) := by decide +kernel
theorem dX6_unsee_12 : decode cX6_unsee 12 = .ok (.invokevirtual 209, 3) := by decide +kernel
theorem dX6_unsee_15 : decode cX6_unsee 15 = .ok (.iload_n 1, 1) := by decide +kernel
theorem dX6_unsee_16 : decode cX6_unsee 16 = .ok (.ireturn, 1) := by decide +kernel
set_option maxRecDepth 20000 in
theorem ggX6_wore_X1_hasGlove : GoodIn wsX6_wore wsX1_hasGlove := goodIn_r _ [9, 10, 122, 123, 124, 125, 126, 127, 128, 129] (by decide +kernel) (by decide +kernel)
set_option maxRecDepth 20000 in
theorem gX6_wore_X1_hasGlove : GoodIn wsX6_wore (wsV RX6 123 RX1 yX1_hasGlove wsX1_hasGlove) := goodIn_app (goodIn_of _ (by decide +kernel)) ggX6_wore_X1_hasGlove
set_option maxRecDepth 20000 in
theorem ggX6_wore_X6_isChoice : GoodIn wsX6_wore wsX6_isChoice := goodIn_r _ [14, 15, 16, 13, 17] (by decide +kernel) (by decide +kernel)
set_option maxRecDepth 20000 in
theorem gX6_wore_X6_isChoice : GoodIn wsX6_wore (va_wsS RX6 180 yX6_isChoice wsX6_isChoice) := goodIn_app (goodIn_of _ (by decide +kernel)) ggX6_wore_X6_isChoice
set_option maxRecDepth 20000 in
theorem ggX6_wore_X2_isWorn : GoodIn wsX6_wore wsX2_isWorn := goodIn_r _ [22, 23, 24, 25, 21, 26, 27, 28, 13, 29, 130, 131, 132, 133] (by decide +kernel) (by decide +kernel)
set_option maxRecDepth 20000 in
theorem gX6_wore_X2_isWorn : GoodIn wsX6_wore (wsV RX6 141 RX2 yX2_isWorn wsX2_isWorn) := goodIn_app (goodIn_of _ (by decide +kernel)) ggX6_wore_X2_isWorn
set_option maxRecDepth 20000 in
theorem ggX6_wore_X4_start : GoodIn wsX6_wore wsX4_start := goodIn_r _ [34, 35, 36, 134, 135] (by decide +kernel) (by decide +kernel)
set_option maxRecDepth 20000 in
theorem gX6_wore_X4_start : GoodIn wsX6_wore (wsV RX6 187 RX4 yX4_start wsX4_start) := goodIn_app (goodIn_of _ (by decide +kernel)) ggX6_wore_X4_start
set_option maxRecDepth 20000 in
theorem ggX6_wore_X2_keptBy : GoodIn wsX6_wore wsX2_keptBy := goodIn_r _ [40, 41, 28, 13, 29, 130, 131, 132, 133] (by decide +kernel) (by decide +kernel)
set_option maxRecDepth 20000 in
theorem gX6_wore_X2_keptBy : GoodIn wsX6_wore (wsV RX6 132 RX2 yX2_keptBy wsX2_keptBy) := goodIn_app (goodIn_of _ (by decide +kernel)) ggX6_wore_X2_keptBy
set_option maxRecDepth 20000 in
theorem ggX6_wore_X6_tallyWearers : GoodIn wsX6_wore wsX6_tallyWearers := goodIn_r _ [44, 45, 46, 47, 48, 49, 50, 51, 28, 13, 29, 52, 53, 54, 55, 56, 57, 58, 59, 8, 60, 61, 62, 63, 64, 65, 66, 67, 68, 33, 69, 35, 36, 70, 71, 72, 73, 74, 75, 76, 77, 78, 79, 80, 81, 82, 83, 84, 85, 86, 87, 88, 89, 90, 91, 92, 93, 94, 95, 96, 97, 98, 99, 100, 101, 102, 103, 104, 105, 106, 107, 108, 42, 43, 136, 137, 138, 139, 122, 123, 124, 125, 126, 127, 128, 129, 134, 135] (by decide +kernel) (by decide +kernel)
set_option maxRecDepth 20000 in
theorem gX6_wore_X6_tallyWearers : GoodIn wsX6_wore (va_wsS RX6 210 yX6_tallyWearers wsX6_tallyWearers) := goodIn_app (goodIn_of _ (by decide +kernel)) ggX6_wore_X6_tallyWearers
set_option maxRecDepth 20000 in
theorem ggX6_wore_X4_told : GoodIn wsX6_wore wsX4_told := goodIn_r _ [112, 35, 36, 134, 135] (by decide +kernel) (by decide +kernel)
set_option maxRecDepth 20000 in
theorem gX6_wore_X4_told : GoodIn wsX6_wore (wsV RX6 193 RX4 yX4_told wsX4_told) := goodIn_app (goodIn_of _ (by decide +kernel)) ggX6_wore_X4_told
theorem dX6_wore_0 : decode cX6_wore 0 = .ok (.aload_n 0, 1) := by decide +kernel
theorem dX6_wore_1 : decode cX6_wore 1 = .ok (.getfield 19, 3) := by decide +kernel
theorem dX6_wore_4 : decode cX6_wore 4 = .ok (.iload_n 1, 1) := by decide +kernel
theorem dX6_wore_5 : decode cX6_wore 5 = .ok (.invokevirtual 123, 3) := by decide +kernel
theorem dX6_wore_8 : decode cX6_wore 8 = .ok (.ifCond .ne 5, 3) := by decide +kernel
theorem dX6_wore_11 : decode cX6_wore 11 = .ok (.iconst (-1), 1) := by decide +kernel
theorem dX6_wore_12 : decode cX6_wore 12 = .ok (.ireturn, 1) := by decide +kernel
theorem dX6_wore_13 : decode cX6_wore 13 = .ok (.iload_n 2, 1) := by decide +kernel
theorem dX6_wore_14 : decode cX6_wore 14 = .ok (.invokestatic 180, 3) := by decide +kernel
theorem dX6_wore_17 : decode cX6_wore 17 = .ok (.ifCond .ne 6, 3) := by decide +kernel
theorem dX6_wore_20 : decode cX6_wore 20 = .ok (.bipush (-2), 2) := by decide +kernel
theorem dX6_wore_22 : decode cX6_wore 22 = .ok (.ireturn, 1) := by decide +kernel
theorem dX6_wore_23 : decode cX6_wore 23 = .ok (.aload_n 0, 1) := by decide +kernel
theorem dX6_wore_24 : decode cX6_wore 24 = .ok (.getfield 26, 3) := by decide +kernel
theorem dX6_wore_27 : decode cX6_wore 27 = .ok (.iload_n 1, 1) := by decide +kernel
theorem dX6_wore_28 : decode cX6_wore 28 = .ok (.invokevirtual 141, 3) := by decide +kernel
theorem dX6_wore_31 : decode cX6_wore 31 = .ok (.ifCond .eq 6, 3) := by decide +kernel
theorem dX6_wore_34 : decode cX6_wore 34 = .ok (.bipush (-3), 2) := by decide +kernel
theorem dX6_wore_36 : decode cX6_wore 36 = .ok (.ireturn, 1) := by decide +kernel
theorem dX6_wore_37 : decode cX6_wore 37 = .ok (.aload_n 0, 1) := by decide +kernel
theorem dX6_wore_38 : decode cX6_wore 38 = .ok (.getfield 50, 3) := by decide +kernel
theorem dX6_wore_41 : decode cX6_wore 41 = .ok (.invokevirtual 187, 3) := by decide +kernel
theorem dX6_wore_44 : decode cX6_wore 44 = .ok (.aload_n 0, 1) := by decide +kernel
theorem dX6_wore_45 : decode cX6_wore 45 = .ok (.getfield 19, 3) := by decide +kernel
theorem dX6_wore_48 : decode cX6_wore 48 = .ok (.aload_n 0, 1) := by decide +kernel
theorem dX6_wore_49 : decode cX6_wore 49 = .ok (.getfield 43, 3) := by decide +kernel
theorem dX6_wore_52 : decode cX6_wore 52 = .ok (.aload_n 0, 1) := by decide +kernel
theorem dX6_wore_53 : decode cX6_wore 53 = .ok (.getfield 50, 3) := by decide +kernel
theorem dX6_wore_56 : decode cX6_wore 56 = .ok (.iload_n 1, 1) := by decide +kernel
theorem dX6_wore_57 : decode cX6_wore 57 = .ok (.aload_n 0, 1) := by decide +kernel
theorem dX6_wore_58 : decode cX6_wore 58 = .ok (.getfield 26, 3) := by decide +kernel
theorem dX6_wore_61 : decode cX6_wore 61 = .ok (.iload_n 1, 1) := by decide +kernel
theorem dX6_wore_62 : decode cX6_wore 62 = .ok (.invokevirtual 132, 3) := by decide +kernel
theorem dX6_wore_65 : decode cX6_wore 65 = .ok (.iconst 0, 1) := by decide +kernel
theorem dX6_wore_66 : decode cX6_wore 66 = .ok (.iconst 0, 1) := by decide +kernel
theorem dX6_wore_67 : decode cX6_wore 67 = .ok (.invokestatic 210, 3) := by decide +kernel
theorem dX6_wore_70 : decode cX6_wore 70 = .ok (.aload_n 0, 1) := by decide +kernel
theorem dX6_wore_71 : decode cX6_wore 71 = .ok (.getfield 50, 3) := by decide +kernel
theorem dX6_wore_74 : decode cX6_wore 74 = .ok (.iload_n 2, 1) := by decide +kernel
theorem dX6_wore_75 : decode cX6_wore 75 = .ok (.invokevirtual 193, 3) := by decide +kernel
theorem dX6_wore_78 : decode cX6_wore 78 = .ok (.ireturn, 1) := by decide +kernel
set_option maxRecDepth 20000 in
theorem ggX6_bids_X1_hasGlove : GoodIn wsX6_bids wsX1_hasGlove := goodIn_r _ [8, 9, 104, 105, 106, 107, 108, 109, 110, 111] (by decide +kernel) (by decide +kernel)
set_option maxRecDepth 20000 in
theorem gX6_bids_X1_hasGlove : GoodIn wsX6_bids (wsV RX6 123 RX1 yX1_hasGlove wsX1_hasGlove) := goodIn_app (goodIn_of _ (by decide +kernel)) ggX6_bids_X1_hasGlove
set_option maxRecDepth 20000 in
theorem ggX6_bids_X1_hasPerson : GoodIn wsX6_bids wsX1_hasPerson := goodIn_r _ [13, 14, 104, 105, 106, 107, 108, 109, 110, 111] (by decide +kernel) (by decide +kernel)
set_option maxRecDepth 20000 in
theorem gX6_bids_X1_hasPerson : GoodIn wsX6_bids (wsV RX6 106 RX1 yX1_hasPerson wsX1_hasPerson) := goodIn_app (goodIn_of _ (by decide +kernel)) ggX6_bids_X1_hasPerson
set_option maxRecDepth 20000 in
theorem ggX6_bids_X6_isChoice : GoodIn wsX6_bids wsX6_isChoice := goodIn_r _ [18, 19, 20, 17, 21] (by decide +kernel) (by decide +kernel)
end
section
set_option maxRecDepth 20000 in
theorem gX6_bids_X6_isChoice : GoodIn wsX6_bids (va_wsS RX6 180 yX6_isChoice wsX6_isChoice) := goodIn_app (goodIn_of _ (by decide +kernel)) ggX6_bids_X6_isChoice
set_option maxRecDepth 20000 in
theorem ggX6_bids_X2_isWorn : GoodIn wsX6_bids wsX2_isWorn := goodIn_r _ [26, 27, 28, 29, 25, 30, 31, 32, 17, 33, 112, 113, 114, 115] (by decide +kernel) (by decide +kernel)
set_option maxRecDepth 20000 in
theorem gX6_bids_X2_isWorn : GoodIn wsX6_bids (wsV RX6 141 RX2 yX2_isWorn wsX2_isWorn) := goodIn_app (goodIn_of _ (by decide +kernel)) ggX6_bids_X2_isWorn
set_option maxRecDepth 20000 in
theorem ggX6_bids_X6_worthOn : GoodIn wsX6_bids wsX6_worthOn := goodIn_r _ [37, 1, 2, 38, 39, 40, 25, 41, 42, 32, 17, 33, 43, 44, 45, 7, 46, 47, 48, 49, 50, 51, 52, 53, 54, 55, 56, 57, 58, 59, 60, 61, 62, 63, 64, 65, 66, 67, 68, 69, 70, 95, 96, 97, 98, 99, 100, 101, 102, 103, 112, 113, 114, 115, 104, 105, 106, 107, 108, 109, 110, 111] (by decide +kernel) (by decide +kernel)
set_option maxRecDepth 20000 in
theorem gX6_bids_X6_worthOn : GoodIn wsX6_bids (wsV RX6 214 RX6 yX6_worthOn wsX6_worthOn) := goodIn_app (goodIn_of _ (by decide +kernel)) ggX6_bids_X6_worthOn
set_option maxRecDepth 20000 in
theorem ggX6_bids_X4_start : GoodIn wsX6_bids wsX4_start := goodIn_r _ [75, 76, 77, 116, 117] (by decide +kernel) (by decide +kernel)
set_option maxRecDepth 20000 in
theorem gX6_bids_X4_start : GoodIn wsX6_bids (wsV RX6 187 RX4 yX4_start wsX4_start) := goodIn_app (goodIn_of _ (by decide +kernel)) ggX6_bids_X4_start
set_option maxRecDepth 20000 in
theorem ggX6_bids_X6_isAtRest : GoodIn wsX6_bids wsX6_isAtRest := goodIn_r _ [80, 81, 82, 17, 83, 84, 85, 86] (by decide +kernel) (by decide +kernel)
set_option maxRecDepth 20000 in
theorem gX6_bids_X6_isAtRest : GoodIn wsX6_bids (va_wsS RX6 217 yX6_isAtRest wsX6_isAtRest) := goodIn_app (goodIn_of _ (by decide +kernel)) ggX6_bids_X6_isAtRest
set_option maxRecDepth 20000 in
theorem ggX6_bids_X4_add : GoodIn wsX6_bids wsX4_add := goodIn_r _ [90, 76, 77, 116, 117] (by decide +kernel) (by decide +kernel)
set_option maxRecDepth 20000 in
theorem gX6_bids_X4_add : GoodIn wsX6_bids (wsV RX6 221 RX4 yX4_add wsX4_add) := goodIn_app (goodIn_of _ (by decide +kernel)) ggX6_bids_X4_add
set_option maxRecDepth 20000 in
theorem ggX6_bids_X4_told : GoodIn wsX6_bids wsX4_told := goodIn_r _ [94, 76, 77, 116, 117] (by decide +kernel) (by decide +kernel)
set_option maxRecDepth 20000 in
theorem gX6_bids_X4_told : GoodIn wsX6_bids (wsV RX6 193 RX4 yX4_told wsX4_told) := goodIn_app (goodIn_of _ (by decide +kernel)) ggX6_bids_X4_told
theorem dX6_bids_0 : decode cX6_bids 0 = .ok (.aload_n 0, 1) := by decide +kernel
theorem dX6_bids_1 : decode cX6_bids 1 = .ok (.getfield 19, 3) := by decide +kernel
theorem dX6_bids_4 : decode cX6_bids 4 = .ok (.iload_n 1, 1) := by decide +kernel
theorem dX6_bids_5 : decode cX6_bids 5 = .ok (.invokevirtual 123, 3) := by decide +kernel
theorem dX6_bids_8 : decode cX6_bids 8 = .ok (.ifCond .eq 25, 3) := by decide +kernel
theorem dX6_bids_11 : decode cX6_bids 11 = .ok (.aload_n 0, 1) := by decide +kernel
theorem dX6_bids_12 : decode cX6_bids 12 = .ok (.getfield 19, 3) := by decide +kernel
theorem dX6_bids_15 : decode cX6_bids 15 = .ok (.iload_n 2, 1) := by decide +kernel
theorem dX6_bids_16 : decode cX6_bids 16 = .ok (.invokevirtual 106, 3) := by decide +kernel
theorem dX6_bids_19 : decode cX6_bids 19 = .ok (.ifCond .eq 14, 3) := by decide +kernel
theorem dX6_bids_22 : decode cX6_bids 22 = .ok (.aload_n 0, 1) := by decide +kernel
theorem dX6_bids_23 : decode cX6_bids 23 = .ok (.getfield 19, 3) := by decide +kernel
theorem dX6_bids_26 : decode cX6_bids 26 = .ok (.iload_n 3, 1) := by decide +kernel
theorem dX6_bids_27 : decode cX6_bids 27 = .ok (.invokevirtual 106, 3) := by decide +kernel
theorem dX6_bids_30 : decode cX6_bids 30 = .ok (.ifCond .ne 5, 3) := by decide +kernel
theorem dX6_bids_33 : decode cX6_bids 33 = .ok (.iconst (-1), 1) := by decide +kernel
theorem dX6_bids_34 : decode cX6_bids 34 = .ok (.ireturn, 1) := by decide +kernel
theorem dX6_bids_35 : decode cX6_bids 35 = .ok (.iload_n 2, 1) := by decide +kernel
theorem dX6_bids_36 : decode cX6_bids 36 = .ok (.iload_n 3, 1) := by decide +kernel
theorem dX6_bids_37 : decode cX6_bids 37 = .ok (.if_icmp .eq 11, 3) := by decide +kernel
theorem dX6_bids_40 : decode cX6_bids 40 = .ok (.iload 4, 2) := by decide +kernel
theorem dX6_bids_42 : decode cX6_bids 42 = .ok (.invokestatic 180, 3) := by decide +kernel
theorem dX6_bids_45 : decode cX6_bids 45 = .ok (.ifCond .ne 6, 3) := by decide +kernel
theorem dX6_bids_48 : decode cX6_bids 48 = .ok (.bipush (-2), 2) := by decide +kernel
theorem dX6_bids_50 : decode cX6_bids 50 = .ok (.ireturn, 1) := by decide +kernel
theorem dX6_bids_51 : decode cX6_bids 51 = .ok (.aload_n 0, 1) := by decide +kernel
theorem dX6_bids_52 : decode cX6_bids 52 = .ok (.getfield 26, 3) := by decide +kernel
theorem dX6_bids_55 : decode cX6_bids 55 = .ok (.iload_n 1, 1) := by decide +kernel
theorem dX6_bids_56 : decode cX6_bids 56 = .ok (.invokevirtual 141, 3) := by decide +kernel
theorem dX6_bids_59 : decode cX6_bids 59 = .ok (.ifCond .eq 6, 3) := by decide +kernel
theorem dX6_bids_62 : decode cX6_bids 62 = .ok (.bipush (-3), 2) := by decide +kernel
theorem dX6_bids_64 : decode cX6_bids 64 = .ok (.ireturn, 1) := by decide +kernel
theorem dX6_bids_65 : decode cX6_bids 65 = .ok (.aload_n 0, 1) := by decide +kernel
theorem dX6_bids_66 : decode cX6_bids 66 = .ok (.iload_n 1, 1) := by decide +kernel
theorem dX6_bids_67 : decode cX6_bids 67 = .ok (.iload_n 2, 1) := by decide +kernel
theorem dX6_bids_68 : decode cX6_bids 68 = .ok (.invokevirtual 214, 3) := by decide +kernel
theorem dX6_bids_71 : decode cX6_bids 71 = .ok (.istore 5, 2) := by decide +kernel
theorem dX6_bids_73 : decode cX6_bids 73 = .ok (.aload_n 0, 1) := by decide +kernel
theorem dX6_bids_74 : decode cX6_bids 74 = .ok (.iload_n 1, 1) := by decide +kernel
theorem dX6_bids_75 : decode cX6_bids 75 = .ok (.iload_n 3, 1) := by decide +kernel
theorem dX6_bids_76 : decode cX6_bids 76 = .ok (.invokevirtual 214, 3) := by decide +kernel
theorem dX6_bids_79 : decode cX6_bids 79 = .ok (.istore 6, 2) := by decide +kernel
theorem dX6_bids_81 : decode cX6_bids 81 = .ok (.aload_n 0, 1) := by decide +kernel
theorem dX6_bids_82 : decode cX6_bids 82 = .ok (.getfield 50, 3) := by decide +kernel
theorem dX6_bids_85 : decode cX6_bids 85 = .ok (.invokevirtual 187, 3) := by decide +kernel
theorem dX6_bids_88 : decode cX6_bids 88 = .ok (.iconst 0, 1) := by decide +kernel
theorem dX6_bids_89 : decode cX6_bids 89 = .ok (.istore 7, 2) := by decide +kernel
theorem dX6_bids_91 : decode cX6_bids 91 = .ok (.iload 7, 2) := by decide +kernel
theorem dX6_bids_93 : decode cX6_bids 93 = .ok (.bipush 9, 2) := by decide +kernel
theorem dX6_bids_95 : decode cX6_bids 95 = .ok (.if_icmp .gt 54, 3) := by decide +kernel
theorem dX6_bids_98 : decode cX6_bids 98 = .ok (.iconst 0, 1) := by decide +kernel
theorem dX6_bids_99 : decode cX6_bids 99 = .ok (.istore 8, 2) := by decide +kernel
theorem dX6_bids_101 : decode cX6_bids 101 = .ok (.iload 8, 2) := by decide +kernel
theorem dX6_bids_103 : decode cX6_bids 103 = .ok (.bipush 9, 2) := by decide +kernel
theorem dX6_bids_105 : decode cX6_bids 105 = .ok (.if_icmp .gt 38, 3) := by decide +kernel
theorem dX6_bids_108 : decode cX6_bids 108 = .ok (.iload 7, 2) := by decide +kernel
theorem dX6_bids_110 : decode cX6_bids 110 = .ok (.iload 8, 2) := by decide +kernel
theorem dX6_bids_112 : decode cX6_bids 112 = .ok (.iload 5, 2) := by decide +kernel
theorem dX6_bids_114 : decode cX6_bids 114 = .ok (.iload 6, 2) := by decide +kernel
theorem dX6_bids_116 : decode cX6_bids 116 = .ok (.invokestatic 217, 3) := by decide +kernel
theorem dX6_bids_119 : decode cX6_bids 119 = .ok (.ifCond .eq 18, 3) := by decide +kernel
theorem dX6_bids_122 : decode cX6_bids 122 = .ok (.aload_n 0, 1) := by decide +kernel
theorem dX6_bids_123 : decode cX6_bids 123 = .ok (.getfield 50, 3) := by decide +kernel
theorem dX6_bids_126 : decode cX6_bids 126 = .ok (.bipush 10, 2) := by decide +kernel
theorem dX6_bids_128 : decode cX6_bids 128 = .ok (.iload 7, 2) := by decide +kernel
theorem dX6_bids_130 : decode cX6_bids 130 = .ok (.imul, 1) := by decide +kernel
theorem dX6_bids_131 : decode cX6_bids 131 = .ok (.iload 8, 2) := by decide +kernel
theorem dX6_bids_133 : decode cX6_bids 133 = .ok (.iadd, 1) := by decide +kernel
theorem dX6_bids_134 : decode cX6_bids 134 = .ok (.invokevirtual 221, 3) := by decide +kernel
theorem dX6_bids_137 : decode cX6_bids 137 = .ok (.iinc 8 1, 3) := by decide +kernel
theorem dX6_bids_140 : decode cX6_bids 140 = .ok (.goto (-39), 3) := by decide +kernel
theorem dX6_bids_143 : decode cX6_bids 143 = .ok (.iinc 7 1, 3) := by decide +kernel
theorem dX6_bids_146 : decode cX6_bids 146 = .ok (.goto (-55), 3) := by decide +kernel
theorem dX6_bids_149 : decode cX6_bids 149 = .ok (.aload_n 0, 1) := by decide +kernel
theorem dX6_bids_150 : decode cX6_bids 150 = .ok (.getfield 50, 3) := by decide +kernel
theorem dX6_bids_153 : decode cX6_bids 153 = .ok (.iload 4, 2) := by decide +kernel
theorem dX6_bids_155 : decode cX6_bids 155 = .ok (.invokevirtual 193, 3) := by decide +kernel
theorem dX6_bids_158 : decode cX6_bids 158 = .ok (.ireturn, 1) := by decide +kernel
set_option maxRecDepth 20000 in
theorem ggX6_lost_X1_hasGlove : GoodIn wsX6_lost wsX1_hasGlove := goodIn_r _ [7, 8, 83, 84, 85, 86, 87, 88, 89, 90] (by decide +kernel) (by decide +kernel)
set_option maxRecDepth 20000 in
theorem gX6_lost_X1_hasGlove : GoodIn wsX6_lost (wsV RX6 123 RX1 yX1_hasGlove wsX1_hasGlove) := goodIn_app (goodIn_of _ (by decide +kernel)) ggX6_lost_X1_hasGlove
set_option maxRecDepth 20000 in
theorem ggX6_lost_X1_hasPerson : GoodIn wsX6_lost wsX1_hasPerson := goodIn_r _ [12, 13, 83, 84, 85, 86, 87, 88, 89, 90] (by decide +kernel) (by decide +kernel)
set_option maxRecDepth 20000 in
theorem gX6_lost_X1_hasPerson : GoodIn wsX6_lost (wsV RX6 106 RX1 yX1_hasPerson wsX1_hasPerson) := goodIn_app (goodIn_of _ (by decide +kernel)) ggX6_lost_X1_hasPerson
set_option maxRecDepth 20000 in
theorem ggX6_lost_X6_within : GoodIn wsX6_lost wsX6_within := goodIn_r _ [17] (by decide +kernel) (by decide +kernel)
set_option maxRecDepth 20000 in
theorem gX6_lost_X6_within : GoodIn wsX6_lost (va_wsS RX6 62 yX6_within wsX6_within) := goodIn_app (goodIn_of _ (by decide +kernel)) ggX6_lost_X6_within
set_option maxRecDepth 20000 in
theorem ggX6_lost_X2_isWorn : GoodIn wsX6_lost wsX2_isWorn := goodIn_r _ [22, 23, 24, 25, 21, 26, 27, 28, 16, 29, 91, 92, 93, 94] (by decide +kernel) (by decide +kernel)
set_option maxRecDepth 20000 in
theorem gX6_lost_X2_isWorn : GoodIn wsX6_lost (wsV RX6 141 RX2 yX2_isWorn wsX2_isWorn) := goodIn_app (goodIn_of _ (by decide +kernel)) ggX6_lost_X2_isWorn
set_option maxRecDepth 20000 in
theorem ggX6_lost_X2_keptBy : GoodIn wsX6_lost wsX2_keptBy := goodIn_r _ [33, 34, 28, 16, 29, 91, 92, 93, 94] (by decide +kernel) (by decide +kernel)
set_option maxRecDepth 20000 in
theorem gX6_lost_X2_keptBy : GoodIn wsX6_lost (wsV RX6 132 RX2 yX2_keptBy wsX2_keptBy) := goodIn_app (goodIn_of _ (by decide +kernel)) ggX6_lost_X2_keptBy
set_option maxRecDepth 20000 in
theorem ggX6_lost_X6_waysToDo : GoodIn wsX6_lost wsX6_waysToDo := goodIn_r _ [37, 38, 39, 40, 6, 41, 42, 16, 43, 44, 45, 46, 47, 48, 28, 29, 49, 50, 51, 52, 53, 54, 55, 56, 57, 58, 59, 13, 60, 61, 62, 63, 64, 65, 66, 67, 68, 69, 70, 35, 36, 83, 84, 85, 86, 87, 88, 89, 90] (by decide +kernel) (by decide +kernel)
set_option maxRecDepth 20000 in
theorem gX6_lost_X6_waysToDo : GoodIn wsX6_lost (va_wsS RX6 222 yX6_waysToDo wsX6_waysToDo) := goodIn_app (goodIn_of _ (by decide +kernel)) ggX6_lost_X6_waysToDo
set_option maxRecDepth 20000 in
theorem ggX6_lost_X1_people : GoodIn wsX6_lost wsX1_people := goodIn_r _ [59, 13, 83, 84, 85, 86, 87, 88, 89, 90] (by decide +kernel) (by decide +kernel)
set_option maxRecDepth 20000 in
theorem gX6_lost_X1_people : GoodIn wsX6_lost (wsV RX6 92 RX1 yX1_people wsX1_people) := goodIn_app (goodIn_of _ (by decide +kernel)) ggX6_lost_X1_people
set_option maxRecDepth 20000 in
theorem ggX6_lost_X6_partInLeastTerms : GoodIn wsX6_lost wsX6_partInLeastTerms := goodIn_r _ [73] (by decide +kernel) (by decide +kernel)
set_option maxRecDepth 20000 in
theorem gX6_lost_X6_partInLeastTerms : GoodIn wsX6_lost (va_wsS RX6 225 yX6_partInLeastTerms wsX6_partInLeastTerms) := goodIn_app (goodIn_of _ (by decide +kernel)) ggX6_lost_X6_partInLeastTerms
theorem dX6_lost_0 : decode cX6_lost 0 = .ok (.aload_n 0, 1) := by decide +kernel
theorem dX6_lost_1 : decode cX6_lost 1 = .ok (.getfield 19, 3) := by decide +kernel
theorem dX6_lost_4 : decode cX6_lost 4 = .ok (.iload_n 1, 1) := by decide +kernel
theorem dX6_lost_5 : decode cX6_lost 5 = .ok (.invokevirtual 123, 3) := by decide +kernel
theorem dX6_lost_8 : decode cX6_lost 8 = .ok (.ifCond .eq 14, 3) := by decide +kernel
theorem dX6_lost_11 : decode cX6_lost 11 = .ok (.aload_n 0, 1) := by decide +kernel
theorem dX6_lost_12 : decode cX6_lost 12 = .ok (.getfield 19, 3) := by decide +kernel
theorem dX6_lost_15 : decode cX6_lost 15 = .ok (.iload_n 2, 1) := by decide +kernel
theorem dX6_lost_16 : decode cX6_lost 16 = .ok (.invokevirtual 106, 3) := by decide +kernel
theorem dX6_lost_19 : decode cX6_lost 19 = .ok (.ifCond .ne 5, 3) := by decide +kernel
theorem dX6_lost_22 : decode cX6_lost 22 = .ok (.iconst (-1), 1) := by decide +kernel
theorem dX6_lost_23 : decode cX6_lost 23 = .ok (.ireturn, 1) := by decide +kernel
theorem dX6_lost_24 : decode cX6_lost 24 = .ok (.iload_n 3, 1) := by decide +kernel
theorem dX6_lost_25 : decode cX6_lost 25 = .ok (.iconst 0, 1) := by decide +kernel
theorem dX6_lost_26 : decode cX6_lost 26 = .ok (.bipush 7, 2) := by decide +kernel
theorem dX6_lost_28 : decode cX6_lost 28 = .ok (.invokestatic 62, 3) := by decide +kernel
theorem dX6_lost_31 : decode cX6_lost 31 = .ok (.ifCond .eq 13, 3) := by decide +kernel
theorem dX6_lost_34 : decode cX6_lost 34 = .ok (.iload 4, 2) := by decide +kernel
theorem dX6_lost_36 : decode cX6_lost 36 = .ok (.iconst 0, 1) := by decide +kernel
theorem dX6_lost_37 : decode cX6_lost 37 = .ok (.iconst 3, 1) := by decide +kernel
theorem dX6_lost_38 : decode cX6_lost 38 = .ok (.invokestatic 62, 3) := by decide +kernel
theorem dX6_lost_41 : decode cX6_lost 41 = .ok (.ifCond .ne 6, 3) := by decide +kernel
theorem dX6_lost_44 : decode cX6_lost 44 = .ok (.bipush (-2), 2) := by decide +kernel
theorem dX6_lost_46 : decode cX6_lost 46 = .ok (.ireturn, 1) := by decide +kernel
theorem dX6_lost_47 : decode cX6_lost 47 = .ok (.aload_n 0, 1) := by decide +kernel
theorem dX6_lost_48 : decode cX6_lost 48 = .ok (.getfield 26, 3) := by decide +kernel
theorem dX6_lost_51 : decode cX6_lost 51 = .ok (.iload_n 1, 1) := by decide +kernel
theorem dX6_lost_52 : decode cX6_lost 52 = .ok (.invokevirtual 141, 3) := by decide +kernel
theorem dX6_lost_55 : decode cX6_lost 55 = .ok (.ifCond .eq 6, 3) := by decide +kernel
theorem dX6_lost_58 : decode cX6_lost 58 = .ok (.bipush (-3), 2) := by decide +kernel
theorem dX6_lost_60 : decode cX6_lost 60 = .ok (.ireturn, 1) := by decide +kernel
theorem dX6_lost_61 : decode cX6_lost 61 = .ok (.aload_n 0, 1) := by decide +kernel
theorem dX6_lost_62 : decode cX6_lost 62 = .ok (.getfield 19, 3) := by decide +kernel
theorem dX6_lost_65 : decode cX6_lost 65 = .ok (.iload_n 1, 1) := by decide +kernel
theorem dX6_lost_66 : decode cX6_lost 66 = .ok (.aload_n 0, 1) := by decide +kernel
theorem dX6_lost_67 : decode cX6_lost 67 = .ok (.getfield 26, 3) := by decide +kernel
theorem dX6_lost_70 : decode cX6_lost 70 = .ok (.iload_n 1, 1) := by decide +kernel
theorem dX6_lost_71 : decode cX6_lost 71 = .ok (.invokevirtual 132, 3) := by decide +kernel
theorem dX6_lost_74 : decode cX6_lost 74 = .ok (.iload_n 2, 1) := by decide +kernel
theorem dX6_lost_75 : decode cX6_lost 75 = .ok (.iload_n 3, 1) := by decide +kernel
theorem dX6_lost_76 : decode cX6_lost 76 = .ok (.iload 4, 2) := by decide +kernel
theorem dX6_lost_78 : decode cX6_lost 78 = .ok (.invokestatic 222, 3) := by decide +kernel
theorem dX6_lost_81 : decode cX6_lost 81 = .ok (.istore 6, 2) := by decide +kernel
theorem dX6_lost_83 : decode cX6_lost 83 = .ok (.iconst 1, 1) := by decide +kernel
theorem dX6_lost_84 : decode cX6_lost 84 = .ok (.istore 7, 2) := by decide +kernel
theorem dX6_lost_86 : decode cX6_lost 86 = .ok (.iconst 0, 1) := by decide +kernel
theorem dX6_lost_87 : decode cX6_lost 87 = .ok (.istore 8, 2) := by decide +kernel
theorem dX6_lost_89 : decode cX6_lost 89 = .ok (.iload 8, 2) := by decide +kernel
theorem dX6_lost_91 : decode cX6_lost 91 = .ok (.iload 4, 2) := by decide +kernel
theorem dX6_lost_93 : decode cX6_lost 93 = .ok (.if_icmp .ge 21, 3) := by decide +kernel
theorem dX6_lost_96 : decode cX6_lost 96 = .ok (.iload 7, 2) := by decide +kernel
theorem dX6_lost_98 : decode cX6_lost 98 = .ok (.aload_n 0, 1) := by decide +kernel
theorem dX6_lost_99 : decode cX6_lost 99 = .ok (.getfield 19, 3) := by decide +kernel
theorem dX6_lost_102 : decode cX6_lost 102 = .ok (.invokevirtual 92, 3) := by decide +kernel
theorem dX6_lost_105 : decode cX6_lost 105 = .ok (.imul, 1) := by decide +kernel
theorem dX6_lost_106 : decode cX6_lost 106 = .ok (.istore 7, 2) := by decide +kernel
theorem dX6_lost_108 : decode cX6_lost 108 = .ok (.iinc 8 1, 3) := by decide +kernel
theorem dX6_lost_111 : decode cX6_lost 111 = .ok (.goto (-22), 3) := by decide +kernel
theorem dX6_lost_114 : decode cX6_lost 114 = .ok (.iload 6, 2) := by decide +kernel
theorem dX6_lost_116 : decode cX6_lost 116 = .ok (.iload 7, 2) := by decide +kernel
theorem dX6_lost_118 : decode cX6_lost 118 = .ok (.iload 5, 2) := by decide +kernel
theorem dX6_lost_120 : decode cX6_lost 120 = .ok (.invokestatic 225, 3) := by decide +kernel
theorem dX6_lost_123 : decode cX6_lost 123 = .ok (.ireturn, 1) := by decide +kernel
theorem dX6_seed_0 : decode cX6_seed 0 = .ok (.aload_n 0, 1) := by decide +kernel
theorem dX6_seed_1 : decode cX6_seed 1 = .ok (.getfield 58, 3) := by decide +kernel
theorem dX6_seed_4 : decode cX6_seed 4 = .ok (.lstore_n 3, 1) := by decide +kernel
theorem dX6_seed_5 : decode cX6_seed 5 = .ok (.aload_n 0, 1) := by decide +kernel
theorem dX6_seed_6 : decode cX6_seed 6 = .ok (.lload_n 1, 1) := by decide +kernel
theorem dX6_seed_7 : decode cX6_seed 7 = .ok (.putfield 58, 3) := by decide +kernel
theorem dX6_seed_10 : decode cX6_seed 10 = .ok (.lload_n 3, 1) := by decide +kernel
theorem dX6_seed_11 : decode cX6_seed 11 = .ok (.lreturn, 1) := by decide +kernel
set_option maxRecDepth 20000 in
theorem ggX6_weeks_X6_within : GoodIn wsX6_weeks wsX6_within := goodIn_r _ [10] (by decide +kernel) (by decide +kernel)
set_option maxRecDepth 20000 in
theorem gX6_weeks_X6_within : GoodIn wsX6_weeks (va_wsS RX6 62 yX6_within wsX6_within) := goodIn_app (goodIn_of _ (by decide +kernel)) ggX6_weeks_X6_within
set_option maxRecDepth 20000 in
theorem ggX6_weeks_X2_copy : GoodIn wsX6_weeks wsX2_copy := goodIn_r _ [15, 16, 17, 18, 19, 20, 9, 21, 105, 106, 107, 108] (by decide +kernel) (by decide +kernel)
set_option maxRecDepth 20000 in
theorem gX6_weeks_X2_copy : GoodIn wsX6_weeks (wsV RX6 229 RX2 yX2_copy wsX2_copy) := goodIn_app (goodIn_of _ (by decide +kernel)) ggX6_weeks_X2_copy
set_option maxRecDepth 20000 in
theorem ggX6_weeks_X6_pleasesOnTrial : GoodIn wsX6_weeks wsX6_pleasesOnTrial := goodIn_r _ [25, 26, 1, 27, 28, 29, 30, 31, 32, 33, 34, 35, 36, 37, 38, 39, 40, 14, 41, 42, 43, 44, 45, 17, 46, 9, 47, 48, 49, 50, 51, 52, 53, 54, 55, 16, 56, 57, 58, 59, 60, 61, 62, 63, 64, 65, 66, 67, 68, 69, 70, 71, 72, 73, 74, 75, 76, 77, 78, 79, 80, 81, 82, 83, 84, 85, 86, 87, 88, 89, 90, 91, 92, 93, 94, 95, 96, 97, 98, 99, 100, 101, 102, 103, 104, 109, 110, 111, 112, 113, 114, 115, 116, 105, 106, 107, 108] (by decide +kernel) (by decide +kernel)
set_option maxRecDepth 20000 in
theorem gX6_weeks_X6_pleasesOnTrial : GoodIn wsX6_weeks (wsV RX6 238 RX6 yX6_pleasesOnTrial wsX6_pleasesOnTrial) := goodIn_app (goodIn_of _ (by decide +kernel)) ggX6_weeks_X6_pleasesOnTrial
theorem dX6_weeks_0 : decode cX6_weeks 0 = .ok (.iload_n 1, 1) := by decide +kernel
theorem dX6_weeks_1 : decode cX6_weeks 1 = .ok (.iconst 1, 1) := by decide +kernel
theorem dX6_weeks_2 : decode cX6_weeks 2 = .ok (.bipush 30, 2) := by decide +kernel
theorem dX6_weeks_4 : decode cX6_weeks 4 = .ok (.invokestatic 62, 3) := by decide +kernel
theorem dX6_weeks_7 : decode cX6_weeks 7 = .ok (.ifCond .ne 6, 3) := by decide +kernel
theorem dX6_weeks_10 : decode cX6_weeks 10 = .ok (.bipush (-2), 2) := by decide +kernel
theorem dX6_weeks_12 : decode cX6_weeks 12 = .ok (.ireturn, 1) := by decide +kernel
theorem dX6_weeks_13 : decode cX6_weeks 13 = .ok (.aload_n 0, 1) := by decide +kernel
theorem dX6_weeks_14 : decode cX6_weeks 14 = .ok (.getfield 30, 3) := by decide +kernel
theorem dX6_weeks_17 : decode cX6_weeks 17 = .ok (.aload_n 0, 1) := by decide +kernel
theorem dX6_weeks_18 : decode cX6_weeks 18 = .ok (.getfield 26, 3) := by decide +kernel
theorem dX6_weeks_21 : decode cX6_weeks 21 = .ok (.invokevirtual 229, 3) := by decide +kernel
theorem dX6_weeks_24 : decode cX6_weeks 24 = .ok (.iconst 0, 1) := by decide +kernel
theorem dX6_weeks_25 : decode cX6_weeks 25 = .ok (.istore_n 2, 1) := by decide +kernel
theorem dX6_weeks_26 : decode cX6_weeks 26 = .ok (.iconst 0, 1) := by decide +kernel
theorem dX6_weeks_27 : decode cX6_weeks 27 = .ok (.istore_n 3, 1) := by decide +kernel
theorem dX6_weeks_28 : decode cX6_weeks 28 = .ok (.iload_n 3, 1) := by decide +kernel
theorem dX6_weeks_29 : decode cX6_weeks 29 = .ok (.iload_n 1, 1) := by decide +kernel
theorem dX6_weeks_30 : decode cX6_weeks 30 = .ok (.if_icmp .ge 57, 3) := by decide +kernel
theorem dX6_weeks_33 : decode cX6_weeks 33 = .ok (.aload_n 0, 1) := by decide +kernel
theorem dX6_weeks_34 : decode cX6_weeks 34 = .ok (.aload_n 0, 1) := by decide +kernel
theorem dX6_weeks_35 : decode cX6_weeks 35 = .ok (.getfield 58, 3) := by decide +kernel
theorem dX6_weeks_38 : decode cX6_weeks 38 = .ok (.ldc2_w 232, 3) := by decide +kernel
theorem dX6_weeks_41 : decode cX6_weeks 41 = .ok (.lmul, 1) := by decide +kernel
theorem dX6_weeks_42 : decode cX6_weeks 42 = .ok (.ldc2_w 234, 3) := by decide +kernel
theorem dX6_weeks_45 : decode cX6_weeks 45 = .ok (.ladd, 1) := by decide +kernel
theorem dX6_weeks_46 : decode cX6_weeks 46 = .ok (.putfield 58, 3) := by decide +kernel
theorem dX6_weeks_49 : decode cX6_weeks 49 = .ok (.aload_n 0, 1) := by decide +kernel
theorem dX6_weeks_50 : decode cX6_weeks 50 = .ok (.getfield 58, 3) := by decide +kernel
theorem dX6_weeks_53 : decode cX6_weeks 53 = .ok (.bipush 33, 2) := by decide +kernel
theorem dX6_weeks_55 : decode cX6_weeks 55 = .ok (.lushr, 1) := by decide +kernel
theorem dX6_weeks_56 : decode cX6_weeks 56 = .ok (.ldc2_w 236, 3) := by decide +kernel
theorem dX6_weeks_59 : decode cX6_weeks 59 = .ok (.lrem, 1) := by decide +kernel
theorem dX6_weeks_60 : decode cX6_weeks 60 = .ok (.l2i, 1) := by decide +kernel
theorem dX6_weeks_61 : decode cX6_weeks 61 = .ok (.istore 4, 2) := by decide +kernel
theorem dX6_weeks_63 : decode cX6_weeks 63 = .ok (.aload_n 0, 1) := by decide +kernel
theorem dX6_weeks_64 : decode cX6_weeks 64 = .ok (.iload 4, 2) := by decide +kernel
theorem dX6_weeks_66 : decode cX6_weeks 66 = .ok (.iconst 5, 1) := by decide +kernel
theorem dX6_weeks_67 : decode cX6_weeks 67 = .ok (.idiv, 1) := by decide +kernel
theorem dX6_weeks_68 : decode cX6_weeks 68 = .ok (.iload 4, 2) := by decide +kernel
theorem dX6_weeks_70 : decode cX6_weeks 70 = .ok (.iconst 5, 1) := by decide +kernel
theorem dX6_weeks_71 : decode cX6_weeks 71 = .ok (.irem, 1) := by decide +kernel
theorem dX6_weeks_72 : decode cX6_weeks 72 = .ok (.invokevirtual 238, 3) := by decide +kernel
theorem dX6_weeks_75 : decode cX6_weeks 75 = .ok (.ifCond .eq 6, 3) := by decide +kernel
theorem dX6_weeks_78 : decode cX6_weeks 78 = .ok (.iinc 2 1, 3) := by decide +kernel
theorem dX6_weeks_81 : decode cX6_weeks 81 = .ok (.iinc 3 1, 3) := by decide +kernel
theorem dX6_weeks_84 : decode cX6_weeks 84 = .ok (.goto (-56), 3) := by decide +kernel
theorem dX6_weeks_87 : decode cX6_weeks 87 = .ok (.iload_n 2, 1) := by decide +kernel
theorem dX6_weeks_88 : decode cX6_weeks 88 = .ok (.ireturn, 1) := by decide +kernel
set_option maxRecDepth 20000 in
theorem ggX6_keep_X6_slotAt : GoodIn wsX6_keep wsX6_slotAt := goodIn_r _ [6, 7, 23, 24, 25, 26, 27, 28, 29, 30, 31] (by decide +kernel) (by decide +kernel)
set_option maxRecDepth 20000 in
theorem gX6_keep_X6_slotAt : GoodIn wsX6_keep (wsV RX6 241 RX6 yX6_slotAt wsX6_slotAt) := goodIn_app (goodIn_of _ (by decide +kernel)) ggX6_keep_X6_slotAt
set_option maxRecDepth 20000 in
theorem ggX6_keep_X2_copy : GoodIn wsX6_keep wsX2_copy := goodIn_r _ [12, 13, 14, 15, 16, 17, 5, 18, 32, 33, 34, 35] (by decide +kernel) (by decide +kernel)
set_option maxRecDepth 20000 in
theorem gX6_keep_X2_copy : GoodIn wsX6_keep (wsV RX6 229 RX2 yX2_copy wsX2_copy) := goodIn_app (goodIn_of _ (by decide +kernel)) ggX6_keep_X2_copy
set_option maxRecDepth 20000 in
theorem ggX6_keep_X2_today : GoodIn wsX6_keep wsX2_today := goodIn_r _ [22, 15, 32, 33, 34, 35] (by decide +kernel) (by decide +kernel)
set_option maxRecDepth 20000 in
theorem gX6_keep_X2_today : GoodIn wsX6_keep (wsV RX6 98 RX2 yX2_today wsX2_today) := goodIn_app (goodIn_of _ (by decide +kernel)) ggX6_keep_X2_today
theorem dX6_keep_0 : decode cX6_keep 0 = .ok (.aload_n 0, 1) := by decide +kernel
theorem dX6_keep_1 : decode cX6_keep 1 = .ok (.iload_n 1, 1) := by decide +kernel
theorem dX6_keep_2 : decode cX6_keep 2 = .ok (.invokevirtual 241, 3) := by decide +kernel
theorem dX6_keep_5 : decode cX6_keep 5 = .ok (.astore_n 2, 1) := by decide +kernel
theorem dX6_keep_6 : decode cX6_keep 6 = .ok (.aload_n 2, 1) := by decide +kernel
theorem dX6_keep_7 : decode cX6_keep 7 = .ok (.ifnonnull 5, 3) := by decide +kernel
theorem dX6_keep_10 : decode cX6_keep 10 = .ok (.iconst (-1), 1) := by decide +kernel
theorem dX6_keep_11 : decode cX6_keep 11 = .ok (.ireturn, 1) := by decide +kernel
theorem dX6_keep_12 : decode cX6_keep 12 = .ok (.aload_n 2, 1) := by decide +kernel
theorem dX6_keep_13 : decode cX6_keep 13 = .ok (.aload_n 0, 1) := by decide +kernel
theorem dX6_keep_14 : decode cX6_keep 14 = .ok (.getfield 26, 3) := by decide +kernel
theorem dX6_keep_17 : decode cX6_keep 17 = .ok (.invokevirtual 229, 3) := by decide +kernel
theorem dX6_keep_20 : decode cX6_keep 20 = .ok (.aload_n 0, 1) := by decide +kernel
theorem dX6_keep_21 : decode cX6_keep 21 = .ok (.getfield 26, 3) := by decide +kernel
theorem dX6_keep_24 : decode cX6_keep 24 = .ok (.invokevirtual 98, 3) := by decide +kernel
theorem dX6_keep_27 : decode cX6_keep 27 = .ok (.ireturn, 1) := by decide +kernel
set_option maxRecDepth 20000 in
theorem ggX6_again_X6_slotAt : GoodIn wsX6_again wsX6_slotAt := goodIn_r _ [7, 8, 34, 35, 36, 37, 38, 39, 40, 41, 42] (by decide +kernel) (by decide +kernel)
set_option maxRecDepth 20000 in
theorem gX6_again_X6_slotAt : GoodIn wsX6_again (wsV RX6 241 RX6 yX6_slotAt wsX6_slotAt) := goodIn_app (goodIn_of _ (by decide +kernel)) ggX6_again_X6_slotAt
set_option maxRecDepth 20000 in
theorem ggX6_again_X2_isTaken : GoodIn wsX6_again wsX2_isTaken := goodIn_r _ [13, 14, 43, 44, 45, 46] (by decide +kernel) (by decide +kernel)
set_option maxRecDepth 20000 in
theorem gX6_again_X2_isTaken : GoodIn wsX6_again (wsV RX6 245 RX2 yX2_isTaken wsX2_isTaken) := goodIn_app (goodIn_of _ (by decide +kernel)) ggX6_again_X2_isTaken
set_option maxRecDepth 20000 in
theorem ggX6_again_X2_copy : GoodIn wsX6_again wsX2_copy := goodIn_r _ [18, 19, 20, 21, 14, 22, 6, 23, 43, 44, 45, 46] (by decide +kernel) (by decide +kernel)
set_option maxRecDepth 20000 in
theorem gX6_again_X2_copy : GoodIn wsX6_again (wsV RX6 229 RX2 yX2_copy wsX2_copy) := goodIn_app (goodIn_of _ (by decide +kernel)) ggX6_again_X2_copy
set_option maxRecDepth 20000 in
theorem ggX6_again_X0_clear : GoodIn wsX6_again wsX0_clear := goodIn_r _ [28, 29, 47, 48, 49] (by decide +kernel) (by decide +kernel)
set_option maxRecDepth 20000 in
theorem gX6_again_X0_clear : GoodIn wsX6_again (wsV RX6 88 RX0 yX0_clear wsX0_clear) := goodIn_app (goodIn_of _ (by decide +kernel)) ggX6_again_X0_clear
set_option maxRecDepth 20000 in
theorem ggX6_again_X2_today : GoodIn wsX6_again wsX2_today := goodIn_r _ [33, 21, 43, 44, 45, 46] (by decide +kernel) (by decide +kernel)
set_option maxRecDepth 20000 in
theorem gX6_again_X2_today : GoodIn wsX6_again (wsV RX6 98 RX2 yX2_today wsX2_today) := goodIn_app (goodIn_of _ (by decide +kernel)) ggX6_again_X2_today
theorem dX6_again_0 : decode cX6_again 0 = .ok (.aload_n 0, 1) := by decide +kernel
theorem dX6_again_1 : decode cX6_again 1 = .ok (.iload_n 1, 1) := by decide +kernel
theorem dX6_again_2 : decode cX6_again 2 = .ok (.invokevirtual 241, 3) := by decide +kernel
theorem dX6_again_5 : decode cX6_again 5 = .ok (.astore_n 2, 1) := by decide +kernel
theorem dX6_again_6 : decode cX6_again 6 = .ok (.aload_n 2, 1) := by decide +kernel
theorem dX6_again_7 : decode cX6_again 7 = .ok (.ifnonnull 5, 3) := by decide +kernel
theorem dX6_again_10 : decode cX6_again 10 = .ok (.iconst (-1), 1) := by decide +kernel
theorem dX6_again_11 : decode cX6_again 11 = .ok (.ireturn, 1) := by decide +kernel
theorem dX6_again_12 : decode cX6_again 12 = .ok (.aload_n 2, 1) := by decide +kernel
theorem dX6_again_13 : decode cX6_again 13 = .ok (.invokevirtual 245, 3) := by decide +kernel
theorem dX6_again_16 : decode cX6_again 16 = .ok (.ifCond .ne 6, 3) := by decide +kernel
theorem dX6_again_19 : decode cX6_again 19 = .ok (.bipush (-3), 2) := by decide +kernel
theorem dX6_again_21 : decode cX6_again 21 = .ok (.ireturn, 1) := by decide +kernel
theorem dX6_again_22 : decode cX6_again 22 = .ok (.aload_n 0, 1) := by decide +kernel
theorem dX6_again_23 : decode cX6_again 23 = .ok (.getfield 26, 3) := by decide +kernel
theorem dX6_again_26 : decode cX6_again 26 = .ok (.aload_n 2, 1) := by decide +kernel
theorem dX6_again_27 : decode cX6_again 27 = .ok (.invokevirtual 229, 3) := by decide +kernel
theorem dX6_again_30 : decode cX6_again 30 = .ok (.aload_n 0, 1) := by decide +kernel
theorem dX6_again_31 : decode cX6_again 31 = .ok (.getfield 36, 3) := by decide +kernel
theorem dX6_again_34 : decode cX6_again 34 = .ok (.invokevirtual 88, 3) := by decide +kernel
theorem dX6_again_37 : decode cX6_again 37 = .ok (.aload_n 0, 1) := by decide +kernel
theorem dX6_again_38 : decode cX6_again 38 = .ok (.getfield 26, 3) := by decide +kernel
theorem dX6_again_41 : decode cX6_again 41 = .ok (.invokevirtual 98, 3) := by decide +kernel
theorem dX6_again_44 : decode cX6_again 44 = .ok (.ireturn, 1) := by decide +kernel
theorem dX6_slotAt_0 : decode cX6_slotAt 0 = .ok (.iload_n 1, 1) := by decide +kernel
theorem dX6_slotAt_1 : decode cX6_slotAt 1 = .ok (.ifCond .lt 21, 3) := by decide +kernel
theorem dX6_slotAt_4 : decode cX6_slotAt 4 = .ok (.iload_n 1, 1) := by decide +kernel
theorem dX6_slotAt_5 : decode cX6_slotAt 5 = .ok (.aload_n 0, 1) := by decide +kernel
theorem dX6_slotAt_6 : decode cX6_slotAt 6 = .ok (.getfield 54, 3) := by decide +kernel
theorem dX6_slotAt_9 : decode cX6_slotAt 9 = .ok (.arraylength, 1) := by decide +kernel
theorem dX6_slotAt_10 : decode cX6_slotAt 10 = .ok (.if_icmp .ge 12, 3) := by decide +kernel
theorem dX6_slotAt_13 : decode cX6_slotAt 13 = .ok (.aload_n 0, 1) := by decide +kernel
theorem dX6_slotAt_14 : decode cX6_slotAt 14 = .ok (.getfield 54, 3) := by decide +kernel
theorem dX6_slotAt_17 : decode cX6_slotAt 17 = .ok (.iload_n 1, 1) := by decide +kernel
theorem dX6_slotAt_18 : decode cX6_slotAt 18 = .ok (.aaload, 1) := by decide +kernel
theorem dX6_slotAt_19 : decode cX6_slotAt 19 = .ok (.goto 4, 3) := by decide +kernel
theorem dX6_slotAt_22 : decode cX6_slotAt 22 = .ok (.aconst_null, 1) := by decide +kernel
theorem dX6_slotAt_23 : decode cX6_slotAt 23 = .ok (.areturn, 1) := by decide +kernel
set_option maxRecDepth 20000 in
theorem ggX6_forgetSlots_X2_release : GoodIn wsX6_forgetSlots wsX2_release := goodIn_r _ [6, 7, 17, 18, 19, 20] (by decide +kernel) (by decide +kernel)
set_option maxRecDepth 20000 in
theorem gX6_forgetSlots_X2_release : GoodIn wsX6_forgetSlots (wsV RX6 249 RX2 yX2_release wsX2_release) := goodIn_app (goodIn_of _ (by decide +kernel)) ggX6_forgetSlots_X2_release
theorem dX6_forgetSlots_0 : decode cX6_forgetSlots 0 = .ok (.iconst 0, 1) := by decide +kernel
theorem dX6_forgetSlots_1 : decode cX6_forgetSlots 1 = .ok (.istore_n 1, 1) := by decide +kernel
theorem dX6_forgetSlots_2 : decode cX6_forgetSlots 2 = .ok (.iload_n 1, 1) := by decide +kernel
theorem dX6_forgetSlots_3 : decode cX6_forgetSlots 3 = .ok (.aload_n 0, 1) := by decide +kernel
theorem dX6_forgetSlots_4 : decode cX6_forgetSlots 4 = .ok (.getfield 54, 3) := by decide +kernel
theorem dX6_forgetSlots_7 : decode cX6_forgetSlots 7 = .ok (.arraylength, 1) := by decide +kernel
theorem dX6_forgetSlots_8 : decode cX6_forgetSlots 8 = .ok (.if_icmp .ge 24, 3) := by decide +kernel
theorem dX6_forgetSlots_11 : decode cX6_forgetSlots 11 = .ok (.aload_n 0, 1) := by decide +kernel
theorem dX6_forgetSlots_12 : decode cX6_forgetSlots 12 = .ok (.getfield 54, 3) := by decide +kernel
theorem dX6_forgetSlots_15 : decode cX6_forgetSlots 15 = .ok (.iload_n 1, 1) := by decide +kernel
theorem dX6_forgetSlots_16 : decode cX6_forgetSlots 16 = .ok (.aaload, 1) := by decide +kernel
theorem dX6_forgetSlots_17 : decode cX6_forgetSlots 17 = .ok (.astore_n 2, 1) := by decide +kernel
theorem dX6_forgetSlots_18 : decode cX6_forgetSlots 18 = .ok (.aload_n 2, 1) := by decide +kernel
theorem dX6_forgetSlots_19 : decode cX6_forgetSlots 19 = .ok (.ifnull 7, 3) := by decide +kernel
theorem dX6_forgetSlots_22 : decode cX6_forgetSlots 22 = .ok (.aload_n 2, 1) := by decide +kernel
theorem dX6_forgetSlots_23 : decode cX6_forgetSlots 23 = .ok (.invokevirtual 249, 3) := by decide +kernel
theorem dX6_forgetSlots_26 : decode cX6_forgetSlots 26 = .ok (.iinc 1 1, 3) := by decide +kernel
theorem dX6_forgetSlots_29 : decode cX6_forgetSlots 29 = .ok (.goto (-27), 3) := by decide +kernel
theorem dX6_forgetSlots_32 : decode cX6_forgetSlots 32 = .ok (.return_, 1) := by decide +kernel
set_option maxRecDepth 20000 in
theorem ggX6_layDown_X2_keptBy : GoodIn wsX6_layDown wsX2_keptBy := goodIn_r _ [7, 8, 9, 10, 11, 53, 54, 55, 56] (by decide +kernel) (by decide +kernel)
set_option maxRecDepth 20000 in
theorem gX6_layDown_X2_keptBy : GoodIn wsX6_layDown (wsV RX6 132 RX2 yX2_keptBy wsX2_keptBy) := goodIn_app (goodIn_of _ (by decide +kernel)) ggX6_layDown_X2_keptBy
set_option maxRecDepth 20000 in
theorem ggX6_layDown_X2_wearerOf : GoodIn wsX6_layDown wsX2_wearerOf := goodIn_r _ [15, 16, 9, 10, 11, 53, 54, 55, 56] (by decide +kernel) (by decide +kernel)
set_option maxRecDepth 20000 in
theorem gX6_layDown_X2_wearerOf : GoodIn wsX6_layDown (wsV RX6 138 RX2 yX2_wearerOf wsX2_wearerOf) := goodIn_app (goodIn_of _ (by decide +kernel)) ggX6_layDown_X2_wearerOf
set_option maxRecDepth 20000 in
theorem ggX6_layDown_X1_afterHand : GoodIn wsX6_layDown wsX1_afterHand := goodIn_r _ [21, 22, 23, 24, 20, 25, 26, 9, 10, 11, 27, 28, 29, 30, 31, 32, 33, 57, 58, 59, 60, 61, 62, 63, 64] (by decide +kernel) (by decide +kernel)
set_option maxRecDepth 20000 in
theorem gX6_layDown_X1_afterHand : GoodIn wsX6_layDown (wsV RX6 252 RX1 yX1_afterHand wsX1_afterHand) := goodIn_app (goodIn_of _ (by decide +kernel)) ggX6_layDown_X1_afterHand
set_option maxRecDepth 20000 in
theorem ggX6_layDown_X2_setKept : GoodIn wsX6_layDown wsX2_setKept := goodIn_r _ [37, 8, 38, 10, 39, 53, 54, 55, 56] (by decide +kernel) (by decide +kernel)
set_option maxRecDepth 20000 in
theorem gX6_layDown_X2_setKept : GoodIn wsX6_layDown (wsV RX6 161 RX2 yX2_setKept wsX2_setKept) := goodIn_app (goodIn_of _ (by decide +kernel)) ggX6_layDown_X2_setKept
set_option maxRecDepth 20000 in
theorem ggX6_layDown_X2_putOn : GoodIn wsX6_layDown wsX2_putOn := goodIn_r _ [43, 16, 38, 10, 39, 53, 54, 55, 56] (by decide +kernel) (by decide +kernel)
set_option maxRecDepth 20000 in
theorem gX6_layDown_X2_putOn : GoodIn wsX6_layDown (wsV RX6 147 RX2 yX2_putOn wsX2_putOn) := goodIn_app (goodIn_of _ (by decide +kernel)) ggX6_layDown_X2_putOn
theorem dX6_layDown_0 : decode cX6_layDown 0 = .ok (.aload_n 0, 1) := by decide +kernel
theorem dX6_layDown_1 : decode cX6_layDown 1 = .ok (.getfield 19, 3) := by decide +kernel
theorem dX6_layDown_4 : decode cX6_layDown 4 = .ok (.iload_n 1, 1) := by decide +kernel
theorem dX6_layDown_5 : decode cX6_layDown 5 = .ok (.aload_n 0, 1) := by decide +kernel
theorem dX6_layDown_6 : decode cX6_layDown 6 = .ok (.getfield 26, 3) := by decide +kernel
theorem dX6_layDown_9 : decode cX6_layDown 9 = .ok (.iload_n 1, 1) := by decide +kernel
theorem dX6_layDown_10 : decode cX6_layDown 10 = .ok (.invokevirtual 132, 3) := by decide +kernel
theorem dX6_layDown_13 : decode cX6_layDown 13 = .ok (.aload_n 0, 1) := by decide +kernel
theorem dX6_layDown_14 : decode cX6_layDown 14 = .ok (.getfield 26, 3) := by decide +kernel
theorem dX6_layDown_17 : decode cX6_layDown 17 = .ok (.iload_n 1, 1) := by decide +kernel
theorem dX6_layDown_18 : decode cX6_layDown 18 = .ok (.invokevirtual 138, 3) := by decide +kernel
theorem dX6_layDown_21 : decode cX6_layDown 21 = .ok (.invokevirtual 252, 3) := by decide +kernel
theorem dX6_layDown_24 : decode cX6_layDown 24 = .ok (.istore_n 2, 1) := by decide +kernel
theorem dX6_layDown_25 : decode cX6_layDown 25 = .ok (.aload_n 0, 1) := by decide +kernel
theorem dX6_layDown_26 : decode cX6_layDown 26 = .ok (.getfield 26, 3) := by decide +kernel
theorem dX6_layDown_29 : decode cX6_layDown 29 = .ok (.iload_n 1, 1) := by decide +kernel
theorem dX6_layDown_30 : decode cX6_layDown 30 = .ok (.iload_n 2, 1) := by decide +kernel
theorem dX6_layDown_31 : decode cX6_layDown 31 = .ok (.invokevirtual 161, 3) := by decide +kernel
theorem dX6_layDown_34 : decode cX6_layDown 34 = .ok (.aload_n 0, 1) := by decide +kernel
theorem dX6_layDown_35 : decode cX6_layDown 35 = .ok (.getfield 26, 3) := by decide +kernel
theorem dX6_layDown_38 : decode cX6_layDown 38 = .ok (.iload_n 1, 1) := by decide +kernel
theorem dX6_layDown_39 : decode cX6_layDown 39 = .ok (.bipush (-9), 2) := by decide +kernel
theorem dX6_layDown_41 : decode cX6_layDown 41 = .ok (.invokevirtual 147, 3) := by decide +kernel
theorem dX6_layDown_44 : decode cX6_layDown 44 = .ok (.return_, 1) := by decide +kernel
set_option maxRecDepth 20000 in
theorem ggX6_lastAfterWashes_X2_keptBy : GoodIn wsX6_lastAfterWashes wsX2_keptBy := goodIn_r _ [6, 7, 8, 9, 10, 26, 27, 28, 29] (by decide +kernel) (by decide +kernel)
set_option maxRecDepth 20000 in
theorem gX6_lastAfterWashes_X2_keptBy : GoodIn wsX6_lastAfterWashes (wsV RX6 132 RX2 yX2_keptBy wsX2_keptBy) := goodIn_app (goodIn_of _ (by decide +kernel)) ggX6_lastAfterWashes_X2_keptBy
set_option maxRecDepth 20000 in
theorem ggX6_lastAfterWashes_X6_withoutLast : GoodIn wsX6_lastAfterWashes wsX6_withoutLast := goodIn_r _ [13] (by decide +kernel) (by decide +kernel)
set_option maxRecDepth 20000 in
theorem gX6_lastAfterWashes_X6_withoutLast : GoodIn wsX6_lastAfterWashes (va_wsS RX6 158 yX6_withoutLast wsX6_withoutLast) := goodIn_app (goodIn_of _ (by decide +kernel)) ggX6_lastAfterWashes_X6_withoutLast
set_option maxRecDepth 20000 in
theorem ggX6_lastAfterWashes_X6_lastOf : GoodIn wsX6_lastAfterWashes wsX6_lastOf := goodIn_r _ [16] (by decide +kernel) (by decide +kernel)
set_option maxRecDepth 20000 in
theorem gX6_lastAfterWashes_X6_lastOf : GoodIn wsX6_lastAfterWashes (va_wsS RX6 164 yX6_lastOf wsX6_lastOf) := goodIn_app (goodIn_of _ (by decide +kernel)) ggX6_lastAfterWashes_X6_lastOf
theorem dX6_lastAfterWashes_0 : decode cX6_lastAfterWashes 0 = .ok (.aload_n 0, 1) := by decide +kernel
theorem dX6_lastAfterWashes_1 : decode cX6_lastAfterWashes 1 = .ok (.getfield 26, 3) := by decide +kernel
theorem dX6_lastAfterWashes_4 : decode cX6_lastAfterWashes 4 = .ok (.iload_n 1, 1) := by decide +kernel
theorem dX6_lastAfterWashes_5 : decode cX6_lastAfterWashes 5 = .ok (.invokevirtual 132, 3) := by decide +kernel
theorem dX6_lastAfterWashes_8 : decode cX6_lastAfterWashes 8 = .ok (.istore_n 3, 1) := by decide +kernel
theorem dX6_lastAfterWashes_9 : decode cX6_lastAfterWashes 9 = .ok (.iconst 0, 1) := by decide +kernel
theorem dX6_lastAfterWashes_10 : decode cX6_lastAfterWashes 10 = .ok (.istore 4, 2) := by decide +kernel
theorem dX6_lastAfterWashes_12 : decode cX6_lastAfterWashes 12 = .ok (.iload 4, 2) := by decide +kernel
theorem dX6_lastAfterWashes_14 : decode cX6_lastAfterWashes 14 = .ok (.iload_n 2, 1) := by decide +kernel
theorem dX6_lastAfterWashes_15 : decode cX6_lastAfterWashes 15 = .ok (.if_icmp .ge 14, 3) := by decide +kernel
theorem dX6_lastAfterWashes_18 : decode cX6_lastAfterWashes 18 = .ok (.iload_n 3, 1) := by decide +kernel
theorem dX6_lastAfterWashes_19 : decode cX6_lastAfterWashes 19 = .ok (.invokestatic 158, 3) := by decide +kernel
theorem dX6_lastAfterWashes_22 : decode cX6_lastAfterWashes 22 = .ok (.istore_n 3, 1) := by decide +kernel
theorem dX6_lastAfterWashes_23 : decode cX6_lastAfterWashes 23 = .ok (.iinc 4 1, 3) := by decide +kernel
theorem dX6_lastAfterWashes_26 : decode cX6_lastAfterWashes 26 = .ok (.goto (-14), 3) := by decide +kernel
theorem dX6_lastAfterWashes_29 : decode cX6_lastAfterWashes 29 = .ok (.iload_n 3, 1) := by decide +kernel
theorem dX6_lastAfterWashes_30 : decode cX6_lastAfterWashes 30 = .ok (.invokestatic 164, 3) := by decide +kernel
theorem dX6_lastAfterWashes_33 : decode cX6_lastAfterWashes 33 = .ok (.ireturn, 1) := by decide +kernel
set_option maxRecDepth 20000 in
theorem ggX6_secretOf_X2_keptBy : GoodIn wsX6_secretOf wsX2_keptBy := goodIn_r _ [6, 7, 8, 9, 10, 23, 24, 25, 26] (by decide +kernel) (by decide +kernel)
set_option maxRecDepth 20000 in
theorem gX6_secretOf_X2_keptBy : GoodIn wsX6_secretOf (wsV RX6 132 RX2 yX2_keptBy wsX2_keptBy) := goodIn_app (goodIn_of _ (by decide +kernel)) ggX6_secretOf_X2_keptBy
set_option maxRecDepth 20000 in
theorem ggX6_secretOf_X6_lastOf : GoodIn wsX6_secretOf wsX6_lastOf := goodIn_r _ [13] (by decide +kernel) (by decide +kernel)
set_option maxRecDepth 20000 in
theorem gX6_secretOf_X6_lastOf : GoodIn wsX6_secretOf (va_wsS RX6 164 yX6_lastOf wsX6_lastOf) := goodIn_app (goodIn_of _ (by decide +kernel)) ggX6_secretOf_X6_lastOf
theorem dX6_secretOf_0 : decode cX6_secretOf 0 = .ok (.aload_n 0, 1) := by decide +kernel
theorem dX6_secretOf_1 : decode cX6_secretOf 1 = .ok (.getfield 26, 3) := by decide +kernel
theorem dX6_secretOf_4 : decode cX6_secretOf 4 = .ok (.iload_n 1, 1) := by decide +kernel
theorem dX6_secretOf_5 : decode cX6_secretOf 5 = .ok (.invokevirtual 132, 3) := by decide +kernel
theorem dX6_secretOf_8 : decode cX6_secretOf 8 = .ok (.invokestatic 164, 3) := by decide +kernel
theorem dX6_secretOf_11 : decode cX6_secretOf 11 = .ok (.aload_n 0, 1) := by decide +kernel
theorem dX6_secretOf_12 : decode cX6_secretOf 12 = .ok (.getfield 26, 3) := by decide +kernel
theorem dX6_secretOf_15 : decode cX6_secretOf 15 = .ok (.iload_n 2, 1) := by decide +kernel
theorem dX6_secretOf_16 : decode cX6_secretOf 16 = .ok (.invokevirtual 132, 3) := by decide +kernel
theorem dX6_secretOf_19 : decode cX6_secretOf 19 = .ok (.invokestatic 164, 3) := by decide +kernel
theorem dX6_secretOf_22 : decode cX6_secretOf 22 = .ok (.ixor, 1) := by decide +kernel
theorem dX6_secretOf_23 : decode cX6_secretOf 23 = .ok (.ireturn, 1) := by decide +kernel
set_option maxRecDepth 20000 in
theorem ggX6_isRow_X1_hasPerson : GoodIn wsX6_isRow wsX1_hasPerson := goodIn_r _ [6, 7, 17, 18, 19, 20, 21, 22, 23, 24] (by decide +kernel) (by decide +kernel)
set_option maxRecDepth 20000 in
theorem gX6_isRow_X1_hasPerson : GoodIn wsX6_isRow (wsV RX6 106 RX1 yX1_hasPerson wsX1_hasPerson) := goodIn_app (goodIn_of _ (by decide +kernel)) ggX6_isRow_X1_hasPerson
theorem dX6_isRow_0 : decode cX6_isRow 0 = .ok (.iload_n 2, 1) := by decide +kernel
theorem dX6_isRow_1 : decode cX6_isRow 1 = .ok (.istore_n 3, 1) := by decide +kernel
theorem dX6_isRow_2 : decode cX6_isRow 2 = .ok (.iconst 0, 1) := by decide +kernel
theorem dX6_isRow_3 : decode cX6_isRow 3 = .ok (.istore 4, 2) := by decide +kernel
theorem dX6_isRow_5 : decode cX6_isRow 5 = .ok (.iload 4, 2) := by decide +kernel
theorem dX6_isRow_7 : decode cX6_isRow 7 = .ok (.iload_n 1, 1) := by decide +kernel
theorem dX6_isRow_8 : decode cX6_isRow 8 = .ok (.if_icmp .ge 32, 3) := by decide +kernel
theorem dX6_isRow_11 : decode cX6_isRow 11 = .ok (.aload_n 0, 1) := by decide +kernel
theorem dX6_isRow_12 : decode cX6_isRow 12 = .ok (.getfield 19, 3) := by decide +kernel
theorem dX6_isRow_15 : decode cX6_isRow 15 = .ok (.iload_n 3, 1) := by decide +kernel
theorem dX6_isRow_16 : decode cX6_isRow 16 = .ok (.bipush 10, 2) := by decide +kernel
theorem dX6_isRow_18 : decode cX6_isRow 18 = .ok (.irem, 1) := by decide +kernel
theorem dX6_isRow_19 : decode cX6_isRow 19 = .ok (.iconst 1, 1) := by decide +kernel
theorem dX6_isRow_20 : decode cX6_isRow 20 = .ok (.isub, 1) := by decide +kernel
theorem dX6_isRow_21 : decode cX6_isRow 21 = .ok (.invokevirtual 106, 3) := by decide +kernel
theorem dX6_isRow_24 : decode cX6_isRow 24 = .ok (.ifCond .ne 5, 3) := by decide +kernel
theorem dX6_isRow_27 : decode cX6_isRow 27 = .ok (.iconst 0, 1) := by decide +kernel
theorem dX6_isRow_28 : decode cX6_isRow 28 = .ok (.ireturn, 1) := by decide +kernel
theorem dX6_isRow_29 : decode cX6_isRow 29 = .ok (.iload_n 3, 1) := by decide +kernel
theorem dX6_isRow_30 : decode cX6_isRow 30 = .ok (.bipush 10, 2) := by decide +kernel
theorem dX6_isRow_32 : decode cX6_isRow 32 = .ok (.idiv, 1) := by decide +kernel
theorem dX6_isRow_33 : decode cX6_isRow 33 = .ok (.istore_n 3, 1) := by decide +kernel
theorem dX6_isRow_34 : decode cX6_isRow 34 = .ok (.iinc 4 1, 3) := by decide +kernel
theorem dX6_isRow_37 : decode cX6_isRow 37 = .ok (.goto (-32), 3) := by decide +kernel
theorem dX6_isRow_40 : decode cX6_isRow 40 = .ok (.iload_n 3, 1) := by decide +kernel
theorem dX6_isRow_41 : decode cX6_isRow 41 = .ok (.ifCond .ne 7, 3) := by decide +kernel
theorem dX6_isRow_44 : decode cX6_isRow 44 = .ok (.iconst 1, 1) := by decide +kernel
theorem dX6_isRow_45 : decode cX6_isRow 45 = .ok (.goto 4, 3) := by decide +kernel
theorem dX6_isRow_48 : decode cX6_isRow 48 = .ok (.iconst 0, 1) := by decide +kernel
theorem dX6_isRow_49 : decode cX6_isRow 49 = .ok (.ireturn, 1) := by decide +kernel
set_option maxRecDepth 20000 in
theorem ggX6_replyToRow_X6_turned : GoodIn wsX6_replyToRow wsX6_turned := goodIn_r _ [6] (by decide +kernel) (by decide +kernel)
set_option maxRecDepth 20000 in
theorem gX6_replyToRow_X6_turned : GoodIn wsX6_replyToRow (va_wsS RX6 255 yX6_turned wsX6_turned) := goodIn_app (goodIn_of _ (by decide +kernel)) ggX6_replyToRow_X6_turned
set_option maxRecDepth 20000 in
theorem ggX6_replyToRow_X2_keptBy : GoodIn wsX6_replyToRow wsX2_keptBy := goodIn_r _ [11, 12, 13, 5, 14, 54, 55, 56, 57] (by decide +kernel) (by decide +kernel)
set_option maxRecDepth 20000 in
theorem gX6_replyToRow_X2_keptBy : GoodIn wsX6_replyToRow (wsV RX6 132 RX2 yX2_keptBy wsX2_keptBy) := goodIn_app (goodIn_of _ (by decide +kernel)) ggX6_replyToRow_X2_keptBy
set_option maxRecDepth 20000 in
theorem ggX6_replyToRow_X1_afterHand : GoodIn wsX6_replyToRow wsX1_afterHand := goodIn_r _ [19, 20, 21, 22, 18, 23, 24, 13, 5, 14, 25, 26, 27, 28, 29, 30, 31, 58, 59, 60, 61, 62, 63, 64, 65] (by decide +kernel) (by decide +kernel)
set_option maxRecDepth 20000 in
theorem gX6_replyToRow_X1_afterHand : GoodIn wsX6_replyToRow (wsV RX6 252 RX1 yX1_afterHand wsX1_afterHand) := goodIn_app (goodIn_of _ (by decide +kernel)) ggX6_replyToRow_X1_afterHand
set_option maxRecDepth 20000 in
theorem ggX6_replyToRow_X1_reply : GoodIn wsX6_replyToRow wsX1_reply := goodIn_r _ [35, 36, 5, 37, 38, 39, 40, 18, 41, 42, 13, 14, 43, 44, 20, 21, 22, 23, 24, 58, 59, 60, 61, 62, 63, 64, 65] (by decide +kernel) (by decide +kernel)
set_option maxRecDepth 20000 in
theorem gX6_replyToRow_X1_reply : GoodIn wsX6_replyToRow (wsV RX6 151 RX1 yX1_reply wsX1_reply) := goodIn_app (goodIn_of _ (by decide +kernel)) ggX6_replyToRow_X1_reply
theorem dX6_replyToRow_0 : decode cX6_replyToRow 0 = .ok (.iload_n 2, 1) := by decide +kernel
theorem dX6_replyToRow_1 : decode cX6_replyToRow 1 = .ok (.iload_n 3, 1) := by decide +kernel
theorem dX6_replyToRow_2 : decode cX6_replyToRow 2 = .ok (.invokestatic 255, 3) := by decide +kernel
theorem dX6_replyToRow_5 : decode cX6_replyToRow 5 = .ok (.istore 4, 2) := by decide +kernel
theorem dX6_replyToRow_7 : decode cX6_replyToRow 7 = .ok (.aload_n 0, 1) := by decide +kernel
theorem dX6_replyToRow_8 : decode cX6_replyToRow 8 = .ok (.getfield 26, 3) := by decide +kernel
theorem dX6_replyToRow_11 : decode cX6_replyToRow 11 = .ok (.iload_n 1, 1) := by decide +kernel
theorem dX6_replyToRow_12 : decode cX6_replyToRow 12 = .ok (.invokevirtual 132, 3) := by decide +kernel
theorem dX6_replyToRow_15 : decode cX6_replyToRow 15 = .ok (.istore 5, 2) := by decide +kernel
theorem dX6_replyToRow_17 : decode cX6_replyToRow 17 = .ok (.iconst 1, 1) := by decide +kernel
theorem dX6_replyToRow_18 : decode cX6_replyToRow 18 = .ok (.istore 6, 2) := by decide +kernel
theorem dX6_replyToRow_20 : decode cX6_replyToRow 20 = .ok (.iload 6, 2) := by decide +kernel
theorem dX6_replyToRow_22 : decode cX6_replyToRow 22 = .ok (.iload_n 2, 1) := by decide +kernel
theorem dX6_replyToRow_23 : decode cX6_replyToRow 23 = .ok (.if_icmp .ge 35, 3) := by decide +kernel
theorem dX6_replyToRow_26 : decode cX6_replyToRow 26 = .ok (.aload_n 0, 1) := by decide +kernel
theorem dX6_replyToRow_27 : decode cX6_replyToRow 27 = .ok (.getfield 19, 3) := by decide +kernel
theorem dX6_replyToRow_30 : decode cX6_replyToRow 30 = .ok (.iload_n 1, 1) := by decide +kernel
theorem dX6_replyToRow_31 : decode cX6_replyToRow 31 = .ok (.iload 5, 2) := by decide +kernel
theorem dX6_replyToRow_33 : decode cX6_replyToRow 33 = .ok (.iload 4, 2) := by decide +kernel
theorem dX6_replyToRow_35 : decode cX6_replyToRow 35 = .ok (.bipush 10, 2) := by decide +kernel
theorem dX6_replyToRow_37 : decode cX6_replyToRow 37 = .ok (.irem, 1) := by decide +kernel
theorem dX6_replyToRow_38 : decode cX6_replyToRow 38 = .ok (.iconst 1, 1) := by decide +kernel
theorem dX6_replyToRow_39 : decode cX6_replyToRow 39 = .ok (.isub, 1) := by decide +kernel
theorem dX6_replyToRow_40 : decode cX6_replyToRow 40 = .ok (.invokevirtual 252, 3) := by decide +kernel
theorem dX6_replyToRow_43 : decode cX6_replyToRow 43 = .ok (.istore 5, 2) := by decide +kernel
theorem dX6_replyToRow_45 : decode cX6_replyToRow 45 = .ok (.iload 4, 2) := by decide +kernel
theorem dX6_replyToRow_47 : decode cX6_replyToRow 47 = .ok (.bipush 10, 2) := by decide +kernel
theorem dX6_replyToRow_49 : decode cX6_replyToRow 49 = .ok (.idiv, 1) := by decide +kernel
theorem dX6_replyToRow_50 : decode cX6_replyToRow 50 = .ok (.istore 4, 2) := by decide +kernel
theorem dX6_replyToRow_52 : decode cX6_replyToRow 52 = .ok (.iinc 6 1, 3) := by decide +kernel
theorem dX6_replyToRow_55 : decode cX6_replyToRow 55 = .ok (.goto (-35), 3) := by decide +kernel
theorem dX6_replyToRow_58 : decode cX6_replyToRow 58 = .ok (.aload_n 0, 1) := by decide +kernel
theorem dX6_replyToRow_59 : decode cX6_replyToRow 59 = .ok (.getfield 19, 3) := by decide +kernel
theorem dX6_replyToRow_62 : decode cX6_replyToRow 62 = .ok (.iload_n 1, 1) := by decide +kernel
theorem dX6_replyToRow_63 : decode cX6_replyToRow 63 = .ok (.iload 5, 2) := by decide +kernel
theorem dX6_replyToRow_65 : decode cX6_replyToRow 65 = .ok (.iload 4, 2) := by decide +kernel
theorem dX6_replyToRow_67 : decode cX6_replyToRow 67 = .ok (.bipush 10, 2) := by decide +kernel
theorem dX6_replyToRow_69 : decode cX6_replyToRow 69 = .ok (.irem, 1) := by decide +kernel
theorem dX6_replyToRow_70 : decode cX6_replyToRow 70 = .ok (.iconst 1, 1) := by decide +kernel
theorem dX6_replyToRow_71 : decode cX6_replyToRow 71 = .ok (.isub, 1) := by decide +kernel
theorem dX6_replyToRow_72 : decode cX6_replyToRow 72 = .ok (.invokevirtual 151, 3) := by decide +kernel
theorem dX6_replyToRow_75 : decode cX6_replyToRow 75 = .ok (.ireturn, 1) := by decide +kernel
set_option maxRecDepth 20000 in
theorem ggX6_worthOn_X2_keptBy : GoodIn wsX6_worthOn wsX2_keptBy := goodIn_r _ [7, 8, 9, 10, 11, 50, 51, 52, 53] (by decide +kernel) (by decide +kernel)
set_option maxRecDepth 20000 in
theorem gX6_worthOn_X2_keptBy : GoodIn wsX6_worthOn (wsV RX6 132 RX2 yX2_keptBy wsX2_keptBy) := goodIn_app (goodIn_of _ (by decide +kernel)) ggX6_worthOn_X2_keptBy
set_option maxRecDepth 20000 in
theorem ggX6_worthOn_X1_reply : GoodIn wsX6_worthOn wsX1_reply := goodIn_r _ [16, 17, 10, 18, 19, 20, 21, 15, 22, 23, 9, 11, 24, 25, 26, 27, 28, 29, 30, 54, 55, 56, 57, 58, 59, 60, 61] (by decide +kernel) (by decide +kernel)
set_option maxRecDepth 20000 in
theorem gX6_worthOn_X1_reply : GoodIn wsX6_worthOn (wsV RX6 151 RX1 yX1_reply wsX1_reply) := goodIn_app (goodIn_of _ (by decide +kernel)) ggX6_worthOn_X1_reply
set_option maxRecDepth 20000 in
theorem ggX6_worthOn_X1_dearTo : GoodIn wsX6_worthOn wsX1_dearTo := goodIn_r _ [34, 35, 9, 10, 11, 54, 55, 56, 57, 58, 59, 60, 61] (by decide +kernel) (by decide +kernel)
set_option maxRecDepth 20000 in
theorem gX6_worthOn_X1_dearTo : GoodIn wsX6_worthOn (wsV RX6 114 RX1 yX1_dearTo wsX1_dearTo) := goodIn_app (goodIn_of _ (by decide +kernel)) ggX6_worthOn_X1_dearTo
set_option maxRecDepth 20000 in
theorem ggX6_worthOn_X1_worthTo : GoodIn wsX6_worthOn wsX1_worthTo := goodIn_r _ [39, 40, 9, 10, 11, 54, 55, 56, 57, 58, 59, 60, 61] (by decide +kernel) (by decide +kernel)
set_option maxRecDepth 20000 in
theorem gX6_worthOn_X1_worthTo : GoodIn wsX6_worthOn (wsV RX6 117 RX1 yX1_worthTo wsX1_worthTo) := goodIn_app (goodIn_of _ (by decide +kernel)) ggX6_worthOn_X1_worthTo
theorem dX6_worthOn_0 : decode cX6_worthOn 0 = .ok (.aload_n 0, 1) := by decide +kernel
theorem dX6_worthOn_1 : decode cX6_worthOn 1 = .ok (.getfield 19, 3) := by decide +kernel
theorem dX6_worthOn_4 : decode cX6_worthOn 4 = .ok (.iload_n 1, 1) := by decide +kernel
theorem dX6_worthOn_5 : decode cX6_worthOn 5 = .ok (.aload_n 0, 1) := by decide +kernel
theorem dX6_worthOn_6 : decode cX6_worthOn 6 = .ok (.getfield 26, 3) := by decide +kernel
theorem dX6_worthOn_9 : decode cX6_worthOn 9 = .ok (.iload_n 1, 1) := by decide +kernel
theorem dX6_worthOn_10 : decode cX6_worthOn 10 = .ok (.invokevirtual 132, 3) := by decide +kernel
theorem dX6_worthOn_13 : decode cX6_worthOn 13 = .ok (.iload_n 2, 1) := by decide +kernel
theorem dX6_worthOn_14 : decode cX6_worthOn 14 = .ok (.invokevirtual 151, 3) := by decide +kernel
theorem dX6_worthOn_17 : decode cX6_worthOn 17 = .ok (.istore_n 3, 1) := by decide +kernel
theorem dX6_worthOn_18 : decode cX6_worthOn 18 = .ok (.iload_n 3, 1) := by decide +kernel
theorem dX6_worthOn_19 : decode cX6_worthOn 19 = .ok (.aload_n 0, 1) := by decide +kernel
theorem dX6_worthOn_20 : decode cX6_worthOn 20 = .ok (.getfield 19, 3) := by decide +kernel
theorem dX6_worthOn_23 : decode cX6_worthOn 23 = .ok (.iload_n 2, 1) := by decide +kernel
theorem dX6_worthOn_24 : decode cX6_worthOn 24 = .ok (.invokevirtual 114, 3) := by decide +kernel
theorem dX6_worthOn_27 : decode cX6_worthOn 27 = .ok (.if_icmp .ne 14, 3) := by decide +kernel
theorem dX6_worthOn_30 : decode cX6_worthOn 30 = .ok (.aload_n 0, 1) := by decide +kernel
theorem dX6_worthOn_31 : decode cX6_worthOn 31 = .ok (.getfield 19, 3) := by decide +kernel
theorem dX6_worthOn_34 : decode cX6_worthOn 34 = .ok (.iload_n 2, 1) := by decide +kernel
theorem dX6_worthOn_35 : decode cX6_worthOn 35 = .ok (.invokevirtual 117, 3) := by decide +kernel
theorem dX6_worthOn_38 : decode cX6_worthOn 38 = .ok (.goto 4, 3) := by decide +kernel
theorem dX6_worthOn_41 : decode cX6_worthOn 41 = .ok (.iconst 0, 1) := by decide +kernel
theorem dX6_worthOn_42 : decode cX6_worthOn 42 = .ok (.ireturn, 1) := by decide +kernel
set_option maxRecDepth 20000 in
theorem ggX6_pleasesOnTrial_X1_hasGlove : GoodIn wsX6_pleasesOnTrial wsX1_hasGlove := goodIn_r _ [7, 8, 85, 86, 87, 88, 89, 90, 91, 92] (by decide +kernel) (by decide +kernel)
set_option maxRecDepth 20000 in
theorem gX6_pleasesOnTrial_X1_hasGlove : GoodIn wsX6_pleasesOnTrial (wsV RX6 123 RX1 yX1_hasGlove wsX1_hasGlove) := goodIn_app (goodIn_of _ (by decide +kernel)) ggX6_pleasesOnTrial_X1_hasGlove
set_option maxRecDepth 20000 in
theorem ggX6_pleasesOnTrial_X1_hasPerson : GoodIn wsX6_pleasesOnTrial wsX1_hasPerson := goodIn_r _ [12, 13, 85, 86, 87, 88, 89, 90, 91, 92] (by decide +kernel) (by decide +kernel)
set_option maxRecDepth 20000 in
theorem gX6_pleasesOnTrial_X1_hasPerson : GoodIn wsX6_pleasesOnTrial (wsV RX6 106 RX1 yX1_hasPerson wsX1_hasPerson) := goodIn_app (goodIn_of _ (by decide +kernel)) ggX6_pleasesOnTrial_X1_hasPerson
set_option maxRecDepth 20000 in
theorem ggX6_pleasesOnTrial_X2_isWorn : GoodIn wsX6_pleasesOnTrial wsX2_isWorn := goodIn_r _ [18, 19, 20, 21, 17, 22, 23, 24, 25, 26, 93, 94, 95, 96] (by decide +kernel) (by decide +kernel)
set_option maxRecDepth 20000 in
theorem gX6_pleasesOnTrial_X2_isWorn : GoodIn wsX6_pleasesOnTrial (wsV RX6 141 RX2 yX2_isWorn wsX2_isWorn) := goodIn_app (goodIn_of _ (by decide +kernel)) ggX6_pleasesOnTrial_X2_isWorn
set_option maxRecDepth 20000 in
theorem ggX6_pleasesOnTrial_X2_gloveOn : GoodIn wsX6_pleasesOnTrial wsX2_gloveOn := goodIn_r _ [30, 19, 20, 21, 17, 22, 23, 24, 25, 26, 93, 94, 95, 96] (by decide +kernel) (by decide +kernel)
set_option maxRecDepth 20000 in
theorem gX6_pleasesOnTrial_X2_gloveOn : GoodIn wsX6_pleasesOnTrial (wsV RX6 120 RX2 yX2_gloveOn wsX2_gloveOn) := goodIn_app (goodIn_of _ (by decide +kernel)) ggX6_pleasesOnTrial_X2_gloveOn
set_option maxRecDepth 20000 in
theorem ggX6_pleasesOnTrial_X2_keptBy : GoodIn wsX6_pleasesOnTrial wsX2_keptBy := goodIn_r _ [34, 35, 24, 25, 26, 93, 94, 95, 96] (by decide +kernel) (by decide +kernel)
set_option maxRecDepth 20000 in
theorem gX6_pleasesOnTrial_X2_keptBy : GoodIn wsX6_pleasesOnTrial (wsV RX6 132 RX2 yX2_keptBy wsX2_keptBy) := goodIn_app (goodIn_of _ (by decide +kernel)) ggX6_pleasesOnTrial_X2_keptBy
set_option maxRecDepth 20000 in
theorem ggX6_pleasesOnTrial_X1_afterHand : GoodIn wsX6_pleasesOnTrial wsX1_afterHand := goodIn_r _ [39, 40, 41, 42, 6, 43, 44, 24, 25, 26, 45, 46, 47, 48, 49, 50, 51, 85, 86, 87, 88, 89, 90, 91, 92] (by decide +kernel) (by decide +kernel)
set_option maxRecDepth 20000 in
theorem gX6_pleasesOnTrial_X1_afterHand : GoodIn wsX6_pleasesOnTrial (wsV RX6 252 RX1 yX1_afterHand wsX1_afterHand) := goodIn_app (goodIn_of _ (by decide +kernel)) ggX6_pleasesOnTrial_X1_afterHand
set_option maxRecDepth 20000 in
theorem ggX6_pleasesOnTrial_X2_setKept : GoodIn wsX6_pleasesOnTrial wsX2_setKept := goodIn_r _ [55, 35, 56, 25, 57, 93, 94, 95, 96] (by decide +kernel) (by decide +kernel)
set_option maxRecDepth 20000 in
theorem gX6_pleasesOnTrial_X2_setKept : GoodIn wsX6_pleasesOnTrial (wsV RX6 161 RX2 yX2_setKept wsX2_setKept) := goodIn_app (goodIn_of _ (by decide +kernel)) ggX6_pleasesOnTrial_X2_setKept
set_option maxRecDepth 20000 in
theorem ggX6_pleasesOnTrial_X1_reply : GoodIn wsX6_pleasesOnTrial wsX1_reply := goodIn_r _ [61, 62, 25, 63, 64, 65, 66, 6, 67, 68, 24, 26, 69, 70, 40, 41, 42, 43, 44, 85, 86, 87, 88, 89, 90, 91, 92] (by decide +kernel) (by decide +kernel)
set_option maxRecDepth 20000 in
theorem gX6_pleasesOnTrial_X1_reply : GoodIn wsX6_pleasesOnTrial (wsV RX6 151 RX1 yX1_reply wsX1_reply) := goodIn_app (goodIn_of _ (by decide +kernel)) ggX6_pleasesOnTrial_X1_reply
set_option maxRecDepth 20000 in
theorem ggX6_pleasesOnTrial_X1_dearTo : GoodIn wsX6_pleasesOnTrial wsX1_dearTo := goodIn_r _ [74, 75, 24, 25, 26, 85, 86, 87, 88, 89, 90, 91, 92] (by decide +kernel) (by decide +kernel)
set_option maxRecDepth 20000 in
theorem gX6_pleasesOnTrial_X1_dearTo : GoodIn wsX6_pleasesOnTrial (wsV RX6 114 RX1 yX1_dearTo wsX1_dearTo) := goodIn_app (goodIn_of _ (by decide +kernel)) ggX6_pleasesOnTrial_X1_dearTo
theorem dX6_pleasesOnTrial_0 : decode cX6_pleasesOnTrial 0 = .ok (.aload_n 0, 1) := by decide +kernel
theorem dX6_pleasesOnTrial_1 : decode cX6_pleasesOnTrial 1 = .ok (.getfield 19, 3) := by decide +kernel
theorem dX6_pleasesOnTrial_4 : decode cX6_pleasesOnTrial 4 = .ok (.iload_n 1, 1) := by decide +kernel
theorem dX6_pleasesOnTrial_5 : decode cX6_pleasesOnTrial 5 = .ok (.invokevirtual 123, 3) := by decide +kernel
theorem dX6_pleasesOnTrial_8 : decode cX6_pleasesOnTrial 8 = .ok (.ifCond .eq 14, 3) := by decide +kernel
theorem dX6_pleasesOnTrial_11 : decode cX6_pleasesOnTrial 11 = .ok (.aload_n 0, 1) := by decide +kernel
theorem dX6_pleasesOnTrial_12 : decode cX6_pleasesOnTrial 12 = .ok (.getfield 19, 3) := by decide +kernel
theorem dX6_pleasesOnTrial_15 : decode cX6_pleasesOnTrial 15 = .ok (.iload_n 2, 1) := by decide +kernel
theorem dX6_pleasesOnTrial_16 : decode cX6_pleasesOnTrial 16 = .ok (.invokevirtual 106, 3) := by decide +kernel
theorem dX6_pleasesOnTrial_19 : decode cX6_pleasesOnTrial 19 = .ok (.ifCond .ne 5, 3) := by decide +kernel
theorem dX6_pleasesOnTrial_22 : decode cX6_pleasesOnTrial 22 = .ok (.iconst 0, 1) := by decide +kernel
theorem dX6_pleasesOnTrial_23 : decode cX6_pleasesOnTrial 23 = .ok (.ireturn, 1) := by decide +kernel
theorem dX6_pleasesOnTrial_24 : decode cX6_pleasesOnTrial 24 = .ok (.aload_n 0, 1) := by decide +kernel
theorem dX6_pleasesOnTrial_25 : decode cX6_pleasesOnTrial 25 = .ok (.getfield 30, 3) := by decide +kernel
theorem dX6_pleasesOnTrial_28 : decode cX6_pleasesOnTrial 28 = .ok (.iload_n 1, 1) := by decide +kernel
theorem dX6_pleasesOnTrial_29 : decode cX6_pleasesOnTrial 29 = .ok (.invokevirtual 141, 3) := by decide +kernel
theorem dX6_pleasesOnTrial_32 : decode cX6_pleasesOnTrial 32 = .ok (.ifCond .ne 16, 3) := by decide +kernel
theorem dX6_pleasesOnTrial_35 : decode cX6_pleasesOnTrial 35 = .ok (.aload_n 0, 1) := by decide +kernel
theorem dX6_pleasesOnTrial_36 : decode cX6_pleasesOnTrial 36 = .ok (.getfield 30, 3) := by decide +kernel
theorem dX6_pleasesOnTrial_39 : decode cX6_pleasesOnTrial 39 = .ok (.iload_n 2, 1) := by decide +kernel
theorem dX6_pleasesOnTrial_40 : decode cX6_pleasesOnTrial 40 = .ok (.invokevirtual 120, 3) := by decide +kernel
theorem dX6_pleasesOnTrial_43 : decode cX6_pleasesOnTrial 43 = .ok (.bipush (-9), 2) := by decide +kernel
theorem dX6_pleasesOnTrial_45 : decode cX6_pleasesOnTrial 45 = .ok (.if_icmp .eq 5, 3) := by decide +kernel
theorem dX6_pleasesOnTrial_48 : decode cX6_pleasesOnTrial 48 = .ok (.iconst 0, 1) := by decide +kernel
theorem dX6_pleasesOnTrial_49 : decode cX6_pleasesOnTrial 49 = .ok (.ireturn, 1) := by decide +kernel
theorem dX6_pleasesOnTrial_50 : decode cX6_pleasesOnTrial 50 = .ok (.aload_n 0, 1) := by decide +kernel
theorem dX6_pleasesOnTrial_51 : decode cX6_pleasesOnTrial 51 = .ok (.getfield 30, 3) := by decide +kernel
theorem dX6_pleasesOnTrial_54 : decode cX6_pleasesOnTrial 54 = .ok (.iload_n 1, 1) := by decide +kernel
theorem dX6_pleasesOnTrial_55 : decode cX6_pleasesOnTrial 55 = .ok (.invokevirtual 132, 3) := by decide +kernel
theorem dX6_pleasesOnTrial_58 : decode cX6_pleasesOnTrial 58 = .ok (.istore_n 3, 1) := by decide +kernel
theorem dX6_pleasesOnTrial_59 : decode cX6_pleasesOnTrial 59 = .ok (.aload_n 0, 1) := by decide +kernel
theorem dX6_pleasesOnTrial_60 : decode cX6_pleasesOnTrial 60 = .ok (.getfield 30, 3) := by decide +kernel
theorem dX6_pleasesOnTrial_63 : decode cX6_pleasesOnTrial 63 = .ok (.iload_n 1, 1) := by decide +kernel
theorem dX6_pleasesOnTrial_64 : decode cX6_pleasesOnTrial 64 = .ok (.aload_n 0, 1) := by decide +kernel
theorem dX6_pleasesOnTrial_65 : decode cX6_pleasesOnTrial 65 = .ok (.getfield 19, 3) := by decide +kernel
theorem dX6_pleasesOnTrial_68 : decode cX6_pleasesOnTrial 68 = .ok (.iload_n 1, 1) := by decide +kernel
theorem dX6_pleasesOnTrial_69 : decode cX6_pleasesOnTrial 69 = .ok (.iload_n 3, 1) := by decide +kernel
theorem dX6_pleasesOnTrial_70 : decode cX6_pleasesOnTrial 70 = .ok (.iload_n 2, 1) := by decide +kernel
theorem dX6_pleasesOnTrial_71 : decode cX6_pleasesOnTrial 71 = .ok (.invokevirtual 252, 3) := by decide +kernel
theorem dX6_pleasesOnTrial_74 : decode cX6_pleasesOnTrial 74 = .ok (.invokevirtual 161, 3) := by decide +kernel
theorem dX6_pleasesOnTrial_77 : decode cX6_pleasesOnTrial 77 = .ok (.aload_n 0, 1) := by decide +kernel
theorem dX6_pleasesOnTrial_78 : decode cX6_pleasesOnTrial 78 = .ok (.getfield 19, 3) := by decide +kernel
theorem dX6_pleasesOnTrial_81 : decode cX6_pleasesOnTrial 81 = .ok (.iload_n 1, 1) := by decide +kernel
theorem dX6_pleasesOnTrial_82 : decode cX6_pleasesOnTrial 82 = .ok (.iload_n 3, 1) := by decide +kernel
theorem dX6_pleasesOnTrial_83 : decode cX6_pleasesOnTrial 83 = .ok (.iload_n 2, 1) := by decide +kernel
theorem dX6_pleasesOnTrial_84 : decode cX6_pleasesOnTrial 84 = .ok (.invokevirtual 151, 3) := by decide +kernel
theorem dX6_pleasesOnTrial_87 : decode cX6_pleasesOnTrial 87 = .ok (.aload_n 0, 1) := by decide +kernel
theorem dX6_pleasesOnTrial_88 : decode cX6_pleasesOnTrial 88 = .ok (.getfield 19, 3) := by decide +kernel
theorem dX6_pleasesOnTrial_91 : decode cX6_pleasesOnTrial 91 = .ok (.iload_n 2, 1) := by decide +kernel
theorem dX6_pleasesOnTrial_92 : decode cX6_pleasesOnTrial 92 = .ok (.invokevirtual 114, 3) := by decide +kernel
theorem dX6_pleasesOnTrial_95 : decode cX6_pleasesOnTrial 95 = .ok (.if_icmp .ne 7, 3) := by decide +kernel
theorem dX6_pleasesOnTrial_98 : decode cX6_pleasesOnTrial 98 = .ok (.iconst 1, 1) := by decide +kernel
theorem dX6_pleasesOnTrial_99 : decode cX6_pleasesOnTrial 99 = .ok (.goto 4, 3) := by decide +kernel
theorem dX6_pleasesOnTrial_102 : decode cX6_pleasesOnTrial 102 = .ok (.iconst 0, 1) := by decide +kernel
theorem dX6_pleasesOnTrial_103 : decode cX6_pleasesOnTrial 103 = .ok (.ireturn, 1) := by decide +kernel
set_option maxRecDepth 20000 in
theorem ggX6_firstRow_X1_people : GoodIn wsX6_firstRow wsX1_people := goodIn_r _ [5, 6, 41, 42, 43, 44, 45, 46, 47, 48] (by decide +kernel) (by decide +kernel)
set_option maxRecDepth 20000 in
theorem gX6_firstRow_X1_people : GoodIn wsX6_firstRow (wsV RX6 92 RX1 yX1_people wsX1_people) := goodIn_app (goodIn_of _ (by decide +kernel)) ggX6_firstRow_X1_people
set_option maxRecDepth 20000 in
theorem ggX6_firstRow_X1_afterHand : GoodIn wsX6_firstRow wsX1_afterHand := goodIn_r _ [10, 11, 12, 13, 4, 14, 15, 16, 17, 18, 19, 20, 21, 22, 23, 24, 25, 41, 42, 43, 44, 45, 46, 47, 48] (by decide +kernel) (by decide +kernel)
set_option maxRecDepth 20000 in
theorem gX6_firstRow_X1_afterHand : GoodIn wsX6_firstRow (wsV RX6 252 RX1 yX1_afterHand wsX1_afterHand) := goodIn_app (goodIn_of _ (by decide +kernel)) ggX6_firstRow_X1_afterHand
set_option maxRecDepth 20000 in
theorem ggX6_firstRow_X6_firstRow : GoodIn wsX6_firstRow wsX6_firstRow := goodIn_r _ [0, 1, 2, 3, 4, 5, 6, 7, 8, 9, 10, 11, 12, 13, 14, 15, 16, 17, 18, 19, 20, 21, 22, 23, 24, 25, 26, 27, 28, 29, 30, 31, 32, 33, 34, 35, 36, 37, 38, 39, 40, 41, 42, 43, 44, 45, 46, 47, 48] (by decide +kernel) (by decide +kernel)
set_option maxRecDepth 20000 in
theorem gX6_firstRow_X6_firstRow : GoodIn wsX6_firstRow (va_wsS RX6 183 yX6_firstRow wsX6_firstRow) := goodIn_app (goodIn_of _ (by decide +kernel)) ggX6_firstRow_X6_firstRow
set_option maxRecDepth 20000 in
theorem ggX6_firstRow_X1_reply : GoodIn wsX6_firstRow wsX1_reply := goodIn_r _ [31, 32, 17, 33, 34, 35, 36, 4, 37, 38, 16, 18, 39, 40, 11, 12, 13, 14, 15, 41, 42, 43, 44, 45, 46, 47, 48] (by decide +kernel) (by decide +kernel)
set_option maxRecDepth 20000 in
theorem gX6_firstRow_X1_reply : GoodIn wsX6_firstRow (wsV RX6 151 RX1 yX1_reply wsX1_reply) := goodIn_app (goodIn_of _ (by decide +kernel)) ggX6_firstRow_X1_reply
theorem dX6_firstRow_0 : decode cX6_firstRow 0 = .ok (.iload 5, 2) := by decide +kernel
theorem dX6_firstRow_2 : decode cX6_firstRow 2 = .ok (.iconst 1, 1) := by decide +kernel
theorem dX6_firstRow_3 : decode cX6_firstRow 3 = .ok (.if_icmp .ge 6, 3) := by decide +kernel
theorem dX6_firstRow_6 : decode cX6_firstRow 6 = .ok (.bipush (-9), 2) := by decide +kernel
theorem dX6_firstRow_8 : decode cX6_firstRow 8 = .ok (.ireturn, 1) := by decide +kernel
theorem dX6_firstRow_9 : decode cX6_firstRow 9 = .ok (.iconst 0, 1) := by decide +kernel
theorem dX6_firstRow_10 : decode cX6_firstRow 10 = .ok (.istore 6, 2) := by decide +kernel
theorem dX6_firstRow_12 : decode cX6_firstRow 12 = .ok (.iload 6, 2) := by decide +kernel
theorem dX6_firstRow_14 : decode cX6_firstRow 14 = .ok (.aload_n 0, 1) := by decide +kernel
theorem dX6_firstRow_15 : decode cX6_firstRow 15 = .ok (.invokevirtual 92, 3) := by decide +kernel
theorem dX6_firstRow_18 : decode cX6_firstRow 18 = .ok (.if_icmp .ge 86, 3) := by decide +kernel
theorem dX6_firstRow_21 : decode cX6_firstRow 21 = .ok (.iload 4, 2) := by decide +kernel
theorem dX6_firstRow_23 : decode cX6_firstRow 23 = .ok (.bipush 10, 2) := by decide +kernel
theorem dX6_firstRow_25 : decode cX6_firstRow 25 = .ok (.imul, 1) := by decide +kernel
theorem dX6_firstRow_26 : decode cX6_firstRow 26 = .ok (.iload 6, 2) := by decide +kernel
theorem dX6_firstRow_28 : decode cX6_firstRow 28 = .ok (.iadd, 1) := by decide +kernel
theorem dX6_firstRow_29 : decode cX6_firstRow 29 = .ok (.iconst 1, 1) := by decide +kernel
theorem dX6_firstRow_30 : decode cX6_firstRow 30 = .ok (.iadd, 1) := by decide +kernel
theorem dX6_firstRow_31 : decode cX6_firstRow 31 = .ok (.istore 7, 2) := by decide +kernel
theorem dX6_firstRow_33 : decode cX6_firstRow 33 = .ok (.bipush (-9), 2) := by decide +kernel
theorem dX6_firstRow_35 : decode cX6_firstRow 35 = .ok (.istore 8, 2) := by decide +kernel
theorem dX6_firstRow_37 : decode cX6_firstRow 37 = .ok (.iload 5, 2) := by decide +kernel
theorem dX6_firstRow_39 : decode cX6_firstRow 39 = .ok (.iconst 1, 1) := by decide +kernel
theorem dX6_firstRow_40 : decode cX6_firstRow 40 = .ok (.if_icmp .le 32, 3) := by decide +kernel
theorem dX6_firstRow_43 : decode cX6_firstRow 43 = .ok (.aload_n 0, 1) := by decide +kernel
theorem dX6_firstRow_44 : decode cX6_firstRow 44 = .ok (.iload_n 1, 1) := by decide +kernel
theorem dX6_firstRow_45 : decode cX6_firstRow 45 = .ok (.iload_n 2, 1) := by decide +kernel
theorem dX6_firstRow_46 : decode cX6_firstRow 46 = .ok (.iload 6, 2) := by decide +kernel
theorem dX6_firstRow_48 : decode cX6_firstRow 48 = .ok (.invokevirtual 252, 3) := by decide +kernel
theorem dX6_firstRow_51 : decode cX6_firstRow 51 = .ok (.istore 9, 2) := by decide +kernel
theorem dX6_firstRow_53 : decode cX6_firstRow 53 = .ok (.aload_n 0, 1) := by decide +kernel
theorem dX6_firstRow_54 : decode cX6_firstRow 54 = .ok (.iload_n 1, 1) := by decide +kernel
theorem dX6_firstRow_55 : decode cX6_firstRow 55 = .ok (.iload 9, 2) := by decide +kernel
theorem dX6_firstRow_57 : decode cX6_firstRow 57 = .ok (.iload_n 3, 1) := by decide +kernel
theorem dX6_firstRow_58 : decode cX6_firstRow 58 = .ok (.iload 7, 2) := by decide +kernel
theorem dX6_firstRow_60 : decode cX6_firstRow 60 = .ok (.iload 5, 2) := by decide +kernel
theorem dX6_firstRow_62 : decode cX6_firstRow 62 = .ok (.iconst 1, 1) := by decide +kernel
theorem dX6_firstRow_63 : decode cX6_firstRow 63 = .ok (.isub, 1) := by decide +kernel
theorem dX6_firstRow_64 : decode cX6_firstRow 64 = .ok (.invokestatic 183, 3) := by decide +kernel
theorem dX6_firstRow_67 : decode cX6_firstRow 67 = .ok (.istore 8, 2) := by decide +kernel
theorem dX6_firstRow_69 : decode cX6_firstRow 69 = .ok (.goto 19, 3) := by decide +kernel
theorem dX6_firstRow_72 : decode cX6_firstRow 72 = .ok (.aload_n 0, 1) := by decide +kernel
theorem dX6_firstRow_73 : decode cX6_firstRow 73 = .ok (.iload_n 1, 1) := by decide +kernel
theorem dX6_firstRow_74 : decode cX6_firstRow 74 = .ok (.iload_n 2, 1) := by decide +kernel
theorem dX6_firstRow_75 : decode cX6_firstRow 75 = .ok (.iload 6, 2) := by decide +kernel
theorem dX6_firstRow_77 : decode cX6_firstRow 77 = .ok (.invokevirtual 151, 3) := by decide +kernel
theorem dX6_firstRow_80 : decode cX6_firstRow 80 = .ok (.iload_n 3, 1) := by decide +kernel
theorem dX6_firstRow_81 : decode cX6_firstRow 81 = .ok (.if_icmp .ne 7, 3) := by decide +kernel
theorem dX6_firstRow_84 : decode cX6_firstRow 84 = .ok (.iload 7, 2) := by decide +kernel
theorem dX6_firstRow_86 : decode cX6_firstRow 86 = .ok (.istore 8, 2) := by decide +kernel
theorem dX6_firstRow_88 : decode cX6_firstRow 88 = .ok (.iload 8, 2) := by decide +kernel
theorem dX6_firstRow_90 : decode cX6_firstRow 90 = .ok (.bipush (-9), 2) := by decide +kernel
theorem dX6_firstRow_92 : decode cX6_firstRow 92 = .ok (.if_icmp .eq 6, 3) := by decide +kernel
theorem dX6_firstRow_95 : decode cX6_firstRow 95 = .ok (.iload 8, 2) := by decide +kernel
theorem dX6_firstRow_97 : decode cX6_firstRow 97 = .ok (.ireturn, 1) := by decide +kernel
theorem dX6_firstRow_98 : decode cX6_firstRow 98 = .ok (.iinc 6 1, 3) := by decide +kernel
theorem dX6_firstRow_101 : decode cX6_firstRow 101 = .ok (.goto (-89), 3) := by decide +kernel
theorem dX6_firstRow_104 : decode cX6_firstRow 104 = .ok (.bipush (-9), 2) := by decide +kernel
theorem dX6_firstRow_106 : decode cX6_firstRow 106 = .ok (.ireturn, 1) := by decide +kernel
set_option maxRecDepth 20000 in
theorem ggX6_tallyRounds_X4_add : GoodIn wsX6_tallyRounds wsX4_add := goodIn_r _ [5, 6, 7, 51, 52] (by decide +kernel) (by decide +kernel)
set_option maxRecDepth 20000 in
theorem gX6_tallyRounds_X4_add : GoodIn wsX6_tallyRounds (wsV RX6 221 RX4 yX4_add wsX4_add) := goodIn_app (goodIn_of _ (by decide +kernel)) ggX6_tallyRounds_X4_add
set_option maxRecDepth 20000 in
theorem ggX6_tallyRounds_X1_people : GoodIn wsX6_tallyRounds wsX1_people := goodIn_r _ [12, 13, 53, 54, 55, 56, 57, 58, 59, 60] (by decide +kernel) (by decide +kernel)
set_option maxRecDepth 20000 in
theorem gX6_tallyRounds_X1_people : GoodIn wsX6_tallyRounds (wsV RX6 92 RX1 yX1_people wsX1_people) := goodIn_app (goodIn_of _ (by decide +kernel)) ggX6_tallyRounds_X1_people
set_option maxRecDepth 20000 in
theorem ggX6_tallyRounds_X1_reply : GoodIn wsX6_tallyRounds wsX1_reply := goodIn_r _ [17, 18, 19, 20, 21, 22, 23, 11, 24, 25, 26, 27, 28, 29, 30, 31, 32, 33, 34, 53, 54, 55, 56, 57, 58, 59, 60] (by decide +kernel) (by decide +kernel)
set_option maxRecDepth 20000 in
theorem gX6_tallyRounds_X1_reply : GoodIn wsX6_tallyRounds (wsV RX6 151 RX1 yX1_reply wsX1_reply) := goodIn_app (goodIn_of _ (by decide +kernel)) ggX6_tallyRounds_X1_reply
set_option maxRecDepth 20000 in
theorem ggX6_tallyRounds_X6_hasFigure : GoodIn wsX6_tallyRounds wsX6_hasFigure := goodIn_r _ [37] (by decide +kernel) (by decide +kernel)
set_option maxRecDepth 20000 in
theorem gX6_tallyRounds_X6_hasFigure : GoodIn wsX6_tallyRounds (va_wsS RX6 258 yX6_hasFigure wsX6_hasFigure) := goodIn_app (goodIn_of _ (by decide +kernel)) ggX6_tallyRounds_X6_hasFigure
set_option maxRecDepth 20000 in
theorem ggX6_tallyRounds_X1_afterHand : GoodIn wsX6_tallyRounds wsX1_afterHand := goodIn_r _ [41, 30, 31, 32, 11, 33, 34, 26, 19, 27, 42, 43, 44, 45, 46, 47, 48, 53, 54, 55, 56, 57, 58, 59, 60] (by decide +kernel) (by decide +kernel)
set_option maxRecDepth 20000 in
theorem gX6_tallyRounds_X1_afterHand : GoodIn wsX6_tallyRounds (wsV RX6 252 RX1 yX1_afterHand wsX1_afterHand) := goodIn_app (goodIn_of _ (by decide +kernel)) ggX6_tallyRounds_X1_afterHand
set_option maxRecDepth 20000 in
theorem ggX6_tallyRounds_X6_tallyRounds : GoodIn wsX6_tallyRounds wsX6_tallyRounds := goodIn_r _ [0, 1, 2, 3, 4, 5, 6, 7, 8, 9, 10, 11, 12, 13, 14, 15, 16, 17, 18, 19, 20, 21, 22, 23, 24, 25, 26, 27, 28, 29, 30, 31, 32, 33, 34, 35, 36, 37, 38, 39, 40, 41, 42, 43, 44, 45, 46, 47, 48, 49, 50, 51, 52, 53, 54, 55, 56, 57, 58, 59, 60] (by decide +kernel) (by decide +kernel)
set_option maxRecDepth 20000 in
theorem gX6_tallyRounds_X6_tallyRounds : GoodIn wsX6_tallyRounds (va_wsS RX6 189 yX6_tallyRounds wsX6_tallyRounds) := goodIn_app (goodIn_of _ (by decide +kernel)) ggX6_tallyRounds_X6_tallyRounds
theorem dX6_tallyRounds_0 : decode cX6_tallyRounds 0 = .ok (.iload 6, 2) := by decide +kernel
theorem dX6_tallyRounds_2 : decode cX6_tallyRounds 2 = .ok (.iconst 1, 1) := by decide +kernel
theorem dX6_tallyRounds_3 : decode cX6_tallyRounds 3 = .ok (.if_icmp .ge 10, 3) := by decide +kernel
theorem dX6_tallyRounds_6 : decode cX6_tallyRounds 6 = .ok (.aload_n 1, 1) := by decide +kernel
theorem dX6_tallyRounds_7 : decode cX6_tallyRounds 7 = .ok (.iload 5, 2) := by decide +kernel
theorem dX6_tallyRounds_9 : decode cX6_tallyRounds 9 = .ok (.invokevirtual 221, 3) := by decide +kernel
theorem dX6_tallyRounds_12 : decode cX6_tallyRounds 12 = .ok (.return_, 1) := by decide +kernel
theorem dX6_tallyRounds_13 : decode cX6_tallyRounds 13 = .ok (.iconst 0, 1) := by decide +kernel
theorem dX6_tallyRounds_14 : decode cX6_tallyRounds 14 = .ok (.istore 7, 2) := by decide +kernel
theorem dX6_tallyRounds_16 : decode cX6_tallyRounds 16 = .ok (.iload 7, 2) := by decide +kernel
theorem dX6_tallyRounds_18 : decode cX6_tallyRounds 18 = .ok (.aload_n 0, 1) := by decide +kernel
theorem dX6_tallyRounds_19 : decode cX6_tallyRounds 19 = .ok (.invokevirtual 92, 3) := by decide +kernel
theorem dX6_tallyRounds_22 : decode cX6_tallyRounds 22 = .ok (.if_icmp .ge 72, 3) := by decide +kernel
theorem dX6_tallyRounds_25 : decode cX6_tallyRounds 25 = .ok (.aload_n 0, 1) := by decide +kernel
theorem dX6_tallyRounds_26 : decode cX6_tallyRounds 26 = .ok (.iload_n 2, 1) := by decide +kernel
theorem dX6_tallyRounds_27 : decode cX6_tallyRounds 27 = .ok (.iload_n 3, 1) := by decide +kernel
theorem dX6_tallyRounds_28 : decode cX6_tallyRounds 28 = .ok (.iload 7, 2) := by decide +kernel
theorem dX6_tallyRounds_30 : decode cX6_tallyRounds 30 = .ok (.invokevirtual 151, 3) := by decide +kernel
theorem dX6_tallyRounds_33 : decode cX6_tallyRounds 33 = .ok (.istore 8, 2) := by decide +kernel
theorem dX6_tallyRounds_35 : decode cX6_tallyRounds 35 = .ok (.iload 8, 2) := by decide +kernel
theorem dX6_tallyRounds_37 : decode cX6_tallyRounds 37 = .ok (.iload 4, 2) := by decide +kernel
theorem dX6_tallyRounds_39 : decode cX6_tallyRounds 39 = .ok (.if_icmp .eq 49, 3) := by decide +kernel
theorem dX6_tallyRounds_42 : decode cX6_tallyRounds 42 = .ok (.iload 5, 2) := by decide +kernel
theorem dX6_tallyRounds_44 : decode cX6_tallyRounds 44 = .ok (.iload 7, 2) := by decide +kernel
theorem dX6_tallyRounds_46 : decode cX6_tallyRounds 46 = .ok (.iconst 1, 1) := by decide +kernel
theorem dX6_tallyRounds_47 : decode cX6_tallyRounds 47 = .ok (.iadd, 1) := by decide +kernel
theorem dX6_tallyRounds_48 : decode cX6_tallyRounds 48 = .ok (.invokestatic 258, 3) := by decide +kernel
theorem dX6_tallyRounds_51 : decode cX6_tallyRounds 51 = .ok (.ifCond .ne 37, 3) := by decide +kernel
theorem dX6_tallyRounds_54 : decode cX6_tallyRounds 54 = .ok (.aload_n 0, 1) := by decide +kernel
theorem dX6_tallyRounds_55 : decode cX6_tallyRounds 55 = .ok (.iload_n 2, 1) := by decide +kernel
theorem dX6_tallyRounds_56 : decode cX6_tallyRounds 56 = .ok (.iload_n 3, 1) := by decide +kernel
theorem dX6_tallyRounds_57 : decode cX6_tallyRounds 57 = .ok (.iload 7, 2) := by decide +kernel
theorem dX6_tallyRounds_59 : decode cX6_tallyRounds 59 = .ok (.invokevirtual 252, 3) := by decide +kernel
theorem dX6_tallyRounds_62 : decode cX6_tallyRounds 62 = .ok (.istore 9, 2) := by decide +kernel
theorem dX6_tallyRounds_64 : decode cX6_tallyRounds 64 = .ok (.aload_n 0, 1) := by decide +kernel
theorem dX6_tallyRounds_65 : decode cX6_tallyRounds 65 = .ok (.aload_n 1, 1) := by decide +kernel
theorem dX6_tallyRounds_66 : decode cX6_tallyRounds 66 = .ok (.iload_n 2, 1) := by decide +kernel
theorem dX6_tallyRounds_67 : decode cX6_tallyRounds 67 = .ok (.iload 9, 2) := by decide +kernel
theorem dX6_tallyRounds_69 : decode cX6_tallyRounds 69 = .ok (.iload 8, 2) := by decide +kernel
theorem dX6_tallyRounds_71 : decode cX6_tallyRounds 71 = .ok (.iload 5, 2) := by decide +kernel
theorem dX6_tallyRounds_73 : decode cX6_tallyRounds 73 = .ok (.bipush 10, 2) := by decide +kernel
theorem dX6_tallyRounds_75 : decode cX6_tallyRounds 75 = .ok (.imul, 1) := by decide +kernel
theorem dX6_tallyRounds_76 : decode cX6_tallyRounds 76 = .ok (.iload 7, 2) := by decide +kernel
theorem dX6_tallyRounds_78 : decode cX6_tallyRounds 78 = .ok (.iadd, 1) := by decide +kernel
theorem dX6_tallyRounds_79 : decode cX6_tallyRounds 79 = .ok (.iconst 1, 1) := by decide +kernel
theorem dX6_tallyRounds_80 : decode cX6_tallyRounds 80 = .ok (.iadd, 1) := by decide +kernel
theorem dX6_tallyRounds_81 : decode cX6_tallyRounds 81 = .ok (.iload 6, 2) := by decide +kernel
theorem dX6_tallyRounds_83 : decode cX6_tallyRounds 83 = .ok (.iconst 1, 1) := by decide +kernel
theorem dX6_tallyRounds_84 : decode cX6_tallyRounds 84 = .ok (.isub, 1) := by decide +kernel
theorem dX6_tallyRounds_85 : decode cX6_tallyRounds 85 = .ok (.invokestatic 189, 3) := by decide +kernel
theorem dX6_tallyRounds_88 : decode cX6_tallyRounds 88 = .ok (.iinc 7 1, 3) := by decide +kernel
theorem dX6_tallyRounds_91 : decode cX6_tallyRounds 91 = .ok (.goto (-75), 3) := by decide +kernel
theorem dX6_tallyRounds_94 : decode cX6_tallyRounds 94 = .ok (.return_, 1) := by decide +kernel
set_option maxRecDepth 20000 in
theorem ggX6_tallyWearers_X3_nextOf : GoodIn wsX6_tallyWearers wsX3_nextOf := goodIn_r _ [5, 6, 7, 8, 9, 10, 11, 12, 13, 4, 14, 15, 16, 17, 18, 19, 20, 21, 74, 75, 76, 77, 78, 79, 80, 81, 82, 83, 84, 85] (by decide +kernel) (by decide +kernel)
set_option maxRecDepth 20000 in
theorem gX6_tallyWearers_X3_nextOf : GoodIn wsX6_tallyWearers (wsV RX6 261 RX3 yX3_nextOf wsX3_nextOf) := goodIn_app (goodIn_of _ (by decide +kernel)) ggX6_tallyWearers_X3_nextOf
set_option maxRecDepth 20000 in
theorem ggX6_tallyWearers_X3_size : GoodIn wsX6_tallyWearers wsX3_size := goodIn_r _ [25, 6, 74, 75, 76, 77] (by decide +kernel) (by decide +kernel)
set_option maxRecDepth 20000 in
theorem gX6_tallyWearers_X3_size : GoodIn wsX6_tallyWearers (wsV RX6 105 RX3 yX3_size wsX3_size) := goodIn_app (goodIn_of _ (by decide +kernel)) ggX6_tallyWearers_X3_size
set_option maxRecDepth 20000 in
theorem ggX6_tallyWearers_X4_add : GoodIn wsX6_tallyWearers wsX4_add := goodIn_r _ [30, 31, 32, 86, 87] (by decide +kernel) (by decide +kernel)
set_option maxRecDepth 20000 in
theorem gX6_tallyWearers_X4_add : GoodIn wsX6_tallyWearers (wsV RX6 221 RX4 yX4_add wsX4_add) := goodIn_app (goodIn_of _ (by decide +kernel)) ggX6_tallyWearers_X4_add
set_option maxRecDepth 20000 in
theorem ggX6_tallyWearers_X3_personAt : GoodIn wsX6_tallyWearers wsX3_personAt := goodIn_r _ [14, 15, 8, 9, 10, 74, 75, 76, 77] (by decide +kernel) (by decide +kernel)
set_option maxRecDepth 20000 in
theorem gX6_tallyWearers_X3_personAt : GoodIn wsX6_tallyWearers (wsV RX6 265 RX3 yX3_personAt wsX3_personAt) := goodIn_app (goodIn_of _ (by decide +kernel)) ggX6_tallyWearers_X3_personAt
set_option maxRecDepth 20000 in
theorem ggX6_tallyWearers_X1_people : GoodIn wsX6_tallyWearers wsX1_people := goodIn_r _ [37, 21, 78, 79, 80, 81, 82, 83, 84, 85] (by decide +kernel) (by decide +kernel)
set_option maxRecDepth 20000 in
theorem gX6_tallyWearers_X1_people : GoodIn wsX6_tallyWearers (wsV RX6 92 RX1 yX1_people wsX1_people) := goodIn_app (goodIn_of _ (by decide +kernel)) ggX6_tallyWearers_X1_people
set_option maxRecDepth 20000 in
theorem ggX6_tallyWearers_X1_afterHand : GoodIn wsX6_tallyWearers wsX1_afterHand := goodIn_r _ [41, 42, 43, 44, 19, 45, 46, 8, 9, 10, 47, 48, 49, 50, 51, 52, 53, 78, 79, 80, 81, 82, 83, 84, 85] (by decide +kernel) (by decide +kernel)
set_option maxRecDepth 20000 in
theorem gX6_tallyWearers_X1_afterHand : GoodIn wsX6_tallyWearers (wsV RX6 252 RX1 yX1_afterHand wsX1_afterHand) := goodIn_app (goodIn_of _ (by decide +kernel)) ggX6_tallyWearers_X1_afterHand
set_option maxRecDepth 20000 in
theorem ggX6_tallyWearers_X1_reply : GoodIn wsX6_tallyWearers wsX1_reply := goodIn_r _ [57, 58, 9, 59, 60, 61, 62, 19, 63, 64, 8, 10, 65, 66, 42, 43, 44, 45, 46, 78, 79, 80, 81, 82, 83, 84, 85] (by decide +kernel) (by decide +kernel)
set_option maxRecDepth 20000 in
theorem gX6_tallyWearers_X1_reply : GoodIn wsX6_tallyWearers (wsV RX6 151 RX1 yX1_reply wsX1_reply) := goodIn_app (goodIn_of _ (by decide +kernel)) ggX6_tallyWearers_X1_reply
set_option maxRecDepth 20000 in
theorem ggX6_tallyWearers_X3_doingAt : GoodIn wsX6_tallyWearers wsX3_doingAt := goodIn_r _ [70, 71, 8, 9, 10, 74, 75, 76, 77] (by decide +kernel) (by decide +kernel)
set_option maxRecDepth 20000 in
theorem gX6_tallyWearers_X3_doingAt : GoodIn wsX6_tallyWearers (wsV RX6 268 RX3 yX3_doingAt wsX3_doingAt) := goodIn_app (goodIn_of _ (by decide +kernel)) ggX6_tallyWearers_X3_doingAt
set_option maxRecDepth 20000 in
theorem ggX6_tallyWearers_X6_tallyWearers : GoodIn wsX6_tallyWearers wsX6_tallyWearers := goodIn_r _ [0, 1, 2, 3, 4, 5, 6, 7, 8, 9, 10, 11, 12, 13, 14, 15, 16, 17, 18, 19, 20, 21, 22, 23, 24, 25, 26, 27, 28, 29, 30, 31, 32, 33, 34, 35, 36, 37, 38, 39, 40, 41, 42, 43, 44, 45, 46, 47, 48, 49, 50, 51, 52, 53, 54, 55, 56, 57, 58, 59, 60, 61, 62, 63, 64, 65, 66, 67, 68, 69, 70, 71, 72, 73, 74, 75, 76, 77, 78, 79, 80, 81, 82, 83, 84, 85, 86, 87] (by decide +kernel) (by decide +kernel)
set_option maxRecDepth 20000 in
theorem gX6_tallyWearers_X6_tallyWearers : GoodIn wsX6_tallyWearers (va_wsS RX6 210 yX6_tallyWearers wsX6_tallyWearers) := goodIn_app (goodIn_of _ (by decide +kernel)) ggX6_tallyWearers_X6_tallyWearers
theorem dX6_tallyWearers_0 : decode cX6_tallyWearers 0 = .ok (.aload_n 1, 1) := by decide +kernel
theorem dX6_tallyWearers_1 : decode cX6_tallyWearers 1 = .ok (.iload_n 3, 1) := by decide +kernel
theorem dX6_tallyWearers_2 : decode cX6_tallyWearers 2 = .ok (.aload_n 0, 1) := by decide +kernel
theorem dX6_tallyWearers_3 : decode cX6_tallyWearers 3 = .ok (.iload 6, 2) := by decide +kernel
theorem dX6_tallyWearers_5 : decode cX6_tallyWearers 5 = .ok (.invokevirtual 261, 3) := by decide +kernel
theorem dX6_tallyWearers_8 : decode cX6_tallyWearers 8 = .ok (.istore 7, 2) := by decide +kernel
theorem dX6_tallyWearers_10 : decode cX6_tallyWearers 10 = .ok (.iload 7, 2) := by decide +kernel
theorem dX6_tallyWearers_12 : decode cX6_tallyWearers 12 = .ok (.aload_n 1, 1) := by decide +kernel
theorem dX6_tallyWearers_13 : decode cX6_tallyWearers 13 = .ok (.invokevirtual 105, 3) := by decide +kernel
theorem dX6_tallyWearers_16 : decode cX6_tallyWearers 16 = .ok (.if_icmp .lt 10, 3) := by decide +kernel
theorem dX6_tallyWearers_19 : decode cX6_tallyWearers 19 = .ok (.aload_n 2, 1) := by decide +kernel
theorem dX6_tallyWearers_20 : decode cX6_tallyWearers 20 = .ok (.iload 5, 2) := by decide +kernel
theorem dX6_tallyWearers_22 : decode cX6_tallyWearers 22 = .ok (.invokevirtual 221, 3) := by decide +kernel
theorem dX6_tallyWearers_25 : decode cX6_tallyWearers 25 = .ok (.return_, 1) := by decide +kernel
theorem dX6_tallyWearers_26 : decode cX6_tallyWearers 26 = .ok (.aload_n 1, 1) := by decide +kernel
theorem dX6_tallyWearers_27 : decode cX6_tallyWearers 27 = .ok (.iload 7, 2) := by decide +kernel
theorem dX6_tallyWearers_29 : decode cX6_tallyWearers 29 = .ok (.invokevirtual 265, 3) := by decide +kernel
theorem dX6_tallyWearers_32 : decode cX6_tallyWearers 32 = .ok (.istore 8, 2) := by decide +kernel
theorem dX6_tallyWearers_34 : decode cX6_tallyWearers 34 = .ok (.iconst 0, 1) := by decide +kernel
theorem dX6_tallyWearers_35 : decode cX6_tallyWearers 35 = .ok (.istore 9, 2) := by decide +kernel
theorem dX6_tallyWearers_37 : decode cX6_tallyWearers 37 = .ok (.iload 9, 2) := by decide +kernel
theorem dX6_tallyWearers_39 : decode cX6_tallyWearers 39 = .ok (.aload_n 0, 1) := by decide +kernel
theorem dX6_tallyWearers_40 : decode cX6_tallyWearers 40 = .ok (.invokevirtual 92, 3) := by decide +kernel
theorem dX6_tallyWearers_43 : decode cX6_tallyWearers 43 = .ok (.if_icmp .ge 72, 3) := by decide +kernel
theorem dX6_tallyWearers_46 : decode cX6_tallyWearers 46 = .ok (.aload_n 0, 1) := by decide +kernel
theorem dX6_tallyWearers_47 : decode cX6_tallyWearers 47 = .ok (.iload_n 3, 1) := by decide +kernel
theorem dX6_tallyWearers_48 : decode cX6_tallyWearers 48 = .ok (.iload 4, 2) := by decide +kernel
theorem dX6_tallyWearers_50 : decode cX6_tallyWearers 50 = .ok (.iload 9, 2) := by decide +kernel
theorem dX6_tallyWearers_52 : decode cX6_tallyWearers 52 = .ok (.invokevirtual 252, 3) := by decide +kernel
theorem dX6_tallyWearers_55 : decode cX6_tallyWearers 55 = .ok (.istore 10, 2) := by decide +kernel
theorem dX6_tallyWearers_57 : decode cX6_tallyWearers 57 = .ok (.aload_n 0, 1) := by decide +kernel
theorem dX6_tallyWearers_58 : decode cX6_tallyWearers 58 = .ok (.iload_n 3, 1) := by decide +kernel
theorem dX6_tallyWearers_59 : decode cX6_tallyWearers 59 = .ok (.iload 10, 2) := by decide +kernel
theorem dX6_tallyWearers_61 : decode cX6_tallyWearers 61 = .ok (.iload 8, 2) := by decide +kernel
theorem dX6_tallyWearers_63 : decode cX6_tallyWearers 63 = .ok (.invokevirtual 151, 3) := by decide +kernel
theorem dX6_tallyWearers_66 : decode cX6_tallyWearers 66 = .ok (.aload_n 1, 1) := by decide +kernel
theorem dX6_tallyWearers_67 : decode cX6_tallyWearers 67 = .ok (.iload 7, 2) := by decide +kernel
theorem dX6_tallyWearers_69 : decode cX6_tallyWearers 69 = .ok (.invokevirtual 268, 3) := by decide +kernel
theorem dX6_tallyWearers_72 : decode cX6_tallyWearers 72 = .ok (.if_icmp .ne 37, 3) := by decide +kernel
theorem dX6_tallyWearers_75 : decode cX6_tallyWearers 75 = .ok (.aload_n 0, 1) := by decide +kernel
theorem dX6_tallyWearers_76 : decode cX6_tallyWearers 76 = .ok (.iload_n 3, 1) := by decide +kernel
theorem dX6_tallyWearers_77 : decode cX6_tallyWearers 77 = .ok (.iload 10, 2) := by decide +kernel
theorem dX6_tallyWearers_79 : decode cX6_tallyWearers 79 = .ok (.iload 8, 2) := by decide +kernel
theorem dX6_tallyWearers_81 : decode cX6_tallyWearers 81 = .ok (.invokevirtual 252, 3) := by decide +kernel
theorem dX6_tallyWearers_84 : decode cX6_tallyWearers 84 = .ok (.istore 11, 2) := by decide +kernel
theorem dX6_tallyWearers_86 : decode cX6_tallyWearers 86 = .ok (.aload_n 0, 1) := by decide +kernel
theorem dX6_tallyWearers_87 : decode cX6_tallyWearers 87 = .ok (.aload_n 1, 1) := by decide +kernel
theorem dX6_tallyWearers_88 : decode cX6_tallyWearers 88 = .ok (.aload_n 2, 1) := by decide +kernel
theorem dX6_tallyWearers_89 : decode cX6_tallyWearers 89 = .ok (.iload_n 3, 1) := by decide +kernel
theorem dX6_tallyWearers_90 : decode cX6_tallyWearers 90 = .ok (.iload 11, 2) := by decide +kernel
theorem dX6_tallyWearers_92 : decode cX6_tallyWearers 92 = .ok (.iload 5, 2) := by decide +kernel
theorem dX6_tallyWearers_94 : decode cX6_tallyWearers 94 = .ok (.bipush 10, 2) := by decide +kernel
theorem dX6_tallyWearers_96 : decode cX6_tallyWearers 96 = .ok (.imul, 1) := by decide +kernel
theorem dX6_tallyWearers_97 : decode cX6_tallyWearers 97 = .ok (.iload 9, 2) := by decide +kernel
theorem dX6_tallyWearers_99 : decode cX6_tallyWearers 99 = .ok (.iadd, 1) := by decide +kernel
theorem dX6_tallyWearers_100 : decode cX6_tallyWearers 100 = .ok (.iconst 1, 1) := by decide +kernel
theorem dX6_tallyWearers_101 : decode cX6_tallyWearers 101 = .ok (.iadd, 1) := by decide +kernel
theorem dX6_tallyWearers_102 : decode cX6_tallyWearers 102 = .ok (.iload 7, 2) := by decide +kernel
theorem dX6_tallyWearers_104 : decode cX6_tallyWearers 104 = .ok (.iconst 1, 1) := by decide +kernel
theorem dX6_tallyWearers_105 : decode cX6_tallyWearers 105 = .ok (.iadd, 1) := by decide +kernel
theorem dX6_tallyWearers_106 : decode cX6_tallyWearers 106 = .ok (.invokestatic 210, 3) := by decide +kernel
theorem dX6_tallyWearers_109 : decode cX6_tallyWearers 109 = .ok (.iinc 9 1, 3) := by decide +kernel
theorem dX6_tallyWearers_112 : decode cX6_tallyWearers 112 = .ok (.goto (-75), 3) := by decide +kernel
theorem dX6_tallyWearers_115 : decode cX6_tallyWearers 115 = .ok (.return_, 1) := by decide +kernel
set_option maxRecDepth 20000 in
theorem ggX6_waysToDo_X1_reply : GoodIn wsX6_waysToDo wsX1_reply := goodIn_r _ [5, 6, 7, 8, 9, 10, 11, 4, 12, 13, 14, 15, 16, 17, 18, 19, 20, 21, 22, 41, 42, 43, 44, 45, 46, 47, 48] (by decide +kernel) (by decide +kernel)
set_option maxRecDepth 20000 in
theorem gX6_waysToDo_X1_reply : GoodIn wsX6_waysToDo (wsV RX6 151 RX1 yX1_reply wsX1_reply) := goodIn_app (goodIn_of _ (by decide +kernel)) ggX6_waysToDo_X1_reply
set_option maxRecDepth 20000 in
theorem ggX6_waysToDo_X1_people : GoodIn wsX6_waysToDo wsX1_people := goodIn_r _ [26, 27, 41, 42, 43, 44, 45, 46, 47, 48] (by decide +kernel) (by decide +kernel)
set_option maxRecDepth 20000 in
theorem gX6_waysToDo_X1_people : GoodIn wsX6_waysToDo (wsV RX6 92 RX1 yX1_people wsX1_people) := goodIn_app (goodIn_of _ (by decide +kernel)) ggX6_waysToDo_X1_people
set_option maxRecDepth 20000 in
theorem ggX6_waysToDo_X1_afterHand : GoodIn wsX6_waysToDo wsX1_afterHand := goodIn_r _ [31, 18, 19, 20, 4, 21, 22, 14, 7, 15, 32, 33, 34, 35, 36, 37, 38, 41, 42, 43, 44, 45, 46, 47, 48] (by decide +kernel) (by decide +kernel)
set_option maxRecDepth 20000 in
theorem gX6_waysToDo_X1_afterHand : GoodIn wsX6_waysToDo (wsV RX6 252 RX1 yX1_afterHand wsX1_afterHand) := goodIn_app (goodIn_of _ (by decide +kernel)) ggX6_waysToDo_X1_afterHand
set_option maxRecDepth 20000 in
theorem ggX6_waysToDo_X6_waysToDo : GoodIn wsX6_waysToDo wsX6_waysToDo := goodIn_r _ [0, 1, 2, 3, 4, 5, 6, 7, 8, 9, 10, 11, 12, 13, 14, 15, 16, 17, 18, 19, 20, 21, 22, 23, 24, 25, 26, 27, 28, 29, 30, 31, 32, 33, 34, 35, 36, 37, 38, 39, 40, 41, 42, 43, 44, 45, 46, 47, 48] (by decide +kernel) (by decide +kernel)
set_option maxRecDepth 20000 in
theorem gX6_waysToDo_X6_waysToDo : GoodIn wsX6_waysToDo (va_wsS RX6 222 yX6_waysToDo wsX6_waysToDo) := goodIn_app (goodIn_of _ (by decide +kernel)) ggX6_waysToDo_X6_waysToDo
theorem dX6_waysToDo_0 : decode cX6_waysToDo 0 = .ok (.iload 5, 2) := by decide +kernel
theorem dX6_waysToDo_2 : decode cX6_waysToDo 2 = .ok (.iconst 1, 1) := by decide +kernel
theorem dX6_waysToDo_3 : decode cX6_waysToDo 3 = .ok (.if_icmp .ge 21, 3) := by decide +kernel
theorem dX6_waysToDo_6 : decode cX6_waysToDo 6 = .ok (.aload_n 0, 1) := by decide +kernel
theorem dX6_waysToDo_7 : decode cX6_waysToDo 7 = .ok (.iload_n 1, 1) := by decide +kernel
theorem dX6_waysToDo_8 : decode cX6_waysToDo 8 = .ok (.iload_n 2, 1) := by decide +kernel
theorem dX6_waysToDo_9 : decode cX6_waysToDo 9 = .ok (.iload_n 3, 1) := by decide +kernel
theorem dX6_waysToDo_10 : decode cX6_waysToDo 10 = .ok (.invokevirtual 151, 3) := by decide +kernel
theorem dX6_waysToDo_13 : decode cX6_waysToDo 13 = .ok (.iload 4, 2) := by decide +kernel
theorem dX6_waysToDo_15 : decode cX6_waysToDo 15 = .ok (.if_icmp .ne 7, 3) := by decide +kernel
theorem dX6_waysToDo_18 : decode cX6_waysToDo 18 = .ok (.iconst 1, 1) := by decide +kernel
theorem dX6_waysToDo_19 : decode cX6_waysToDo 19 = .ok (.goto 4, 3) := by decide +kernel
theorem dX6_waysToDo_22 : decode cX6_waysToDo 22 = .ok (.iconst 0, 1) := by decide +kernel
theorem dX6_waysToDo_23 : decode cX6_waysToDo 23 = .ok (.ireturn, 1) := by decide +kernel
theorem dX6_waysToDo_24 : decode cX6_waysToDo 24 = .ok (.iconst 0, 1) := by decide +kernel
theorem dX6_waysToDo_25 : decode cX6_waysToDo 25 = .ok (.istore 6, 2) := by decide +kernel
theorem dX6_waysToDo_27 : decode cX6_waysToDo 27 = .ok (.iconst 0, 1) := by decide +kernel
theorem dX6_waysToDo_28 : decode cX6_waysToDo 28 = .ok (.istore 7, 2) := by decide +kernel
theorem dX6_waysToDo_30 : decode cX6_waysToDo 30 = .ok (.iload 7, 2) := by decide +kernel
theorem dX6_waysToDo_32 : decode cX6_waysToDo 32 = .ok (.aload_n 0, 1) := by decide +kernel
theorem dX6_waysToDo_33 : decode cX6_waysToDo 33 = .ok (.invokevirtual 92, 3) := by decide +kernel
theorem dX6_waysToDo_36 : decode cX6_waysToDo 36 = .ok (.if_icmp .ge 38, 3) := by decide +kernel
theorem dX6_waysToDo_39 : decode cX6_waysToDo 39 = .ok (.aload_n 0, 1) := by decide +kernel
theorem dX6_waysToDo_40 : decode cX6_waysToDo 40 = .ok (.iload_n 1, 1) := by decide +kernel
theorem dX6_waysToDo_41 : decode cX6_waysToDo 41 = .ok (.iload_n 2, 1) := by decide +kernel
theorem dX6_waysToDo_42 : decode cX6_waysToDo 42 = .ok (.iload 7, 2) := by decide +kernel
theorem dX6_waysToDo_44 : decode cX6_waysToDo 44 = .ok (.invokevirtual 252, 3) := by decide +kernel
theorem dX6_waysToDo_47 : decode cX6_waysToDo 47 = .ok (.istore 8, 2) := by decide +kernel
theorem dX6_waysToDo_49 : decode cX6_waysToDo 49 = .ok (.iload 6, 2) := by decide +kernel
theorem dX6_waysToDo_51 : decode cX6_waysToDo 51 = .ok (.aload_n 0, 1) := by decide +kernel
theorem dX6_waysToDo_52 : decode cX6_waysToDo 52 = .ok (.iload_n 1, 1) := by decide +kernel
theorem dX6_waysToDo_53 : decode cX6_waysToDo 53 = .ok (.iload 8, 2) := by decide +kernel
theorem dX6_waysToDo_55 : decode cX6_waysToDo 55 = .ok (.iload_n 3, 1) := by decide +kernel
theorem dX6_waysToDo_56 : decode cX6_waysToDo 56 = .ok (.iload 4, 2) := by decide +kernel
theorem dX6_waysToDo_58 : decode cX6_waysToDo 58 = .ok (.iload 5, 2) := by decide +kernel
theorem dX6_waysToDo_60 : decode cX6_waysToDo 60 = .ok (.iconst 1, 1) := by decide +kernel
theorem dX6_waysToDo_61 : decode cX6_waysToDo 61 = .ok (.isub, 1) := by decide +kernel
theorem dX6_waysToDo_62 : decode cX6_waysToDo 62 = .ok (.invokestatic 222, 3) := by decide +kernel
theorem dX6_waysToDo_65 : decode cX6_waysToDo 65 = .ok (.iadd, 1) := by decide +kernel
theorem dX6_waysToDo_66 : decode cX6_waysToDo 66 = .ok (.istore 6, 2) := by decide +kernel
theorem dX6_waysToDo_68 : decode cX6_waysToDo 68 = .ok (.iinc 7 1, 3) := by decide +kernel
theorem dX6_waysToDo_71 : decode cX6_waysToDo 71 = .ok (.goto (-41), 3) := by decide +kernel
theorem dX6_waysToDo_74 : decode cX6_waysToDo 74 = .ok (.iload 6, 2) := by decide +kernel
theorem dX6_waysToDo_76 : decode cX6_waysToDo 76 = .ok (.ireturn, 1) := by decide +kernel
set_option maxRecDepth 20000 in
theorem ggX6_isAtRest_X6_gainOfFirst : GoodIn wsX6_isAtRest wsX6_gainOfFirst := goodIn_r _ [4] (by decide +kernel) (by decide +kernel)
set_option maxRecDepth 20000 in
theorem gX6_isAtRest_X6_gainOfFirst : GoodIn wsX6_isAtRest (va_wsS RX6 271 yX6_gainOfFirst wsX6_gainOfFirst) := goodIn_app (goodIn_of _ (by decide +kernel)) ggX6_isAtRest_X6_gainOfFirst
set_option maxRecDepth 20000 in
theorem ggX6_isAtRest_X6_gainOfOther : GoodIn wsX6_isAtRest wsX6_gainOfOther := goodIn_r _ [7] (by decide +kernel) (by decide +kernel)
set_option maxRecDepth 20000 in
theorem gX6_isAtRest_X6_gainOfOther : GoodIn wsX6_isAtRest (va_wsS RX6 274 yX6_gainOfOther wsX6_gainOfOther) := goodIn_app (goodIn_of _ (by decide +kernel)) ggX6_isAtRest_X6_gainOfOther
theorem dX6_isAtRest_0 : decode cX6_isAtRest 0 = .ok (.iload_n 0, 1) := by decide +kernel
theorem dX6_isAtRest_1 : decode cX6_isAtRest 1 = .ok (.iload_n 1, 1) := by decide +kernel
theorem dX6_isAtRest_2 : decode cX6_isAtRest 2 = .ok (.iload_n 2, 1) := by decide +kernel
theorem dX6_isAtRest_3 : decode cX6_isAtRest 3 = .ok (.invokestatic 271, 3) := by decide +kernel
theorem dX6_isAtRest_6 : decode cX6_isAtRest 6 = .ok (.istore 4, 2) := by decide +kernel
theorem dX6_isAtRest_8 : decode cX6_isAtRest 8 = .ok (.iload_n 0, 1) := by decide +kernel
theorem dX6_isAtRest_9 : decode cX6_isAtRest 9 = .ok (.iload_n 1, 1) := by decide +kernel
theorem dX6_isAtRest_10 : decode cX6_isAtRest 10 = .ok (.iload_n 3, 1) := by decide +kernel
theorem dX6_isAtRest_11 : decode cX6_isAtRest 11 = .ok (.invokestatic 274, 3) := by decide +kernel
theorem dX6_isAtRest_14 : decode cX6_isAtRest 14 = .ok (.istore 5, 2) := by decide +kernel
theorem dX6_isAtRest_16 : decode cX6_isAtRest 16 = .ok (.iconst 0, 1) := by decide +kernel
theorem dX6_isAtRest_17 : decode cX6_isAtRest 17 = .ok (.istore 6, 2) := by decide +kernel
theorem dX6_isAtRest_19 : decode cX6_isAtRest 19 = .ok (.iload 6, 2) := by decide +kernel
theorem dX6_isAtRest_21 : decode cX6_isAtRest 21 = .ok (.bipush 9, 2) := by decide +kernel
theorem dX6_isAtRest_23 : decode cX6_isAtRest 23 = .ok (.if_icmp .gt 37, 3) := by decide +kernel
theorem dX6_isAtRest_26 : decode cX6_isAtRest 26 = .ok (.iload 6, 2) := by decide +kernel
theorem dX6_isAtRest_28 : decode cX6_isAtRest 28 = .ok (.iload_n 1, 1) := by decide +kernel
theorem dX6_isAtRest_29 : decode cX6_isAtRest 29 = .ok (.iload_n 2, 1) := by decide +kernel
theorem dX6_isAtRest_30 : decode cX6_isAtRest 30 = .ok (.invokestatic 271, 3) := by decide +kernel
theorem dX6_isAtRest_33 : decode cX6_isAtRest 33 = .ok (.iload 4, 2) := by decide +kernel
theorem dX6_isAtRest_35 : decode cX6_isAtRest 35 = .ok (.if_icmp .le 5, 3) := by decide +kernel
theorem dX6_isAtRest_38 : decode cX6_isAtRest 38 = .ok (.iconst 0, 1) := by decide +kernel
theorem dX6_isAtRest_39 : decode cX6_isAtRest 39 = .ok (.ireturn, 1) := by decide +kernel
theorem dX6_isAtRest_40 : decode cX6_isAtRest 40 = .ok (.iload_n 0, 1) := by decide +kernel
theorem dX6_isAtRest_41 : decode cX6_isAtRest 41 = .ok (.iload 6, 2) := by decide +kernel
theorem dX6_isAtRest_43 : decode cX6_isAtRest 43 = .ok (.iload_n 3, 1) := by decide +kernel
theorem dX6_isAtRest_44 : decode cX6_isAtRest 44 = .ok (.invokestatic 274, 3) := by decide +kernel
theorem dX6_isAtRest_47 : decode cX6_isAtRest 47 = .ok (.iload 5, 2) := by decide +kernel
theorem dX6_isAtRest_49 : decode cX6_isAtRest 49 = .ok (.if_icmp .le 5, 3) := by decide +kernel
theorem dX6_isAtRest_52 : decode cX6_isAtRest 52 = .ok (.iconst 0, 1) := by decide +kernel
theorem dX6_isAtRest_53 : decode cX6_isAtRest 53 = .ok (.ireturn, 1) := by decide +kernel
theorem dX6_isAtRest_54 : decode cX6_isAtRest 54 = .ok (.iinc 6 1, 3) := by decide +kernel
theorem dX6_isAtRest_57 : decode cX6_isAtRest 57 = .ok (.goto (-38), 3) := by decide +kernel
theorem dX6_isAtRest_60 : decode cX6_isAtRest 60 = .ok (.iconst 1, 1) := by decide +kernel
theorem dX6_isAtRest_61 : decode cX6_isAtRest 61 = .ok (.ireturn, 1) := by decide +kernel
theorem dX6_gainOfFirst_0 : decode cX6_gainOfFirst 0 = .ok (.iload_n 0, 1) := by decide +kernel
theorem dX6_gainOfFirst_1 : decode cX6_gainOfFirst 1 = .ok (.iload_n 1, 1) := by decide +kernel
theorem dX6_gainOfFirst_2 : decode cX6_gainOfFirst 2 = .ok (.if_icmp .lt 9, 3) := by decide +kernel
theorem dX6_gainOfFirst_5 : decode cX6_gainOfFirst 5 = .ok (.iload_n 2, 1) := by decide +kernel
theorem dX6_gainOfFirst_6 : decode cX6_gainOfFirst 6 = .ok (.iload_n 0, 1) := by decide +kernel
theorem dX6_gainOfFirst_7 : decode cX6_gainOfFirst 7 = .ok (.isub, 1) := by decide +kernel
theorem dX6_gainOfFirst_8 : decode cX6_gainOfFirst 8 = .ok (.goto 4, 3) := by decide +kernel
theorem dX6_gainOfFirst_11 : decode cX6_gainOfFirst 11 = .ok (.iconst 0, 1) := by decide +kernel
theorem dX6_gainOfFirst_12 : decode cX6_gainOfFirst 12 = .ok (.ireturn, 1) := by decide +kernel
theorem dX6_gainOfOther_0 : decode cX6_gainOfOther 0 = .ok (.iload_n 1, 1) := by decide +kernel
theorem dX6_gainOfOther_1 : decode cX6_gainOfOther 1 = .ok (.iload_n 0, 1) := by decide +kernel
theorem dX6_gainOfOther_2 : decode cX6_gainOfOther 2 = .ok (.if_icmp .le 9, 3) := by decide +kernel
theorem dX6_gainOfOther_5 : decode cX6_gainOfOther 5 = .ok (.iload_n 2, 1) := by decide +kernel
theorem dX6_gainOfOther_6 : decode cX6_gainOfOther 6 = .ok (.iload_n 1, 1) := by decide +kernel
theorem dX6_gainOfOther_7 : decode cX6_gainOfOther 7 = .ok (.isub, 1) := by decide +kernel
theorem dX6_gainOfOther_8 : decode cX6_gainOfOther 8 = .ok (.goto 4, 3) := by decide +kernel
theorem dX6_gainOfOther_11 : decode cX6_gainOfOther 11 = .ok (.iconst 0, 1) := by decide +kernel
theorem dX6_gainOfOther_12 : decode cX6_gainOfOther 12 = .ok (.ireturn, 1) := by decide +kernel
theorem dX6_within_0 : decode cX6_within 0 = .ok (.iload_n 0, 1) := by decide +kernel
theorem dX6_within_1 : decode cX6_within 1 = .ok (.iload_n 1, 1) := by decide +kernel
theorem dX6_within_2 : decode cX6_within 2 = .ok (.if_icmp .lt 12, 3) := by decide +kernel
theorem dX6_within_5 : decode cX6_within 5 = .ok (.iload_n 0, 1) := by decide +kernel
theorem dX6_within_6 : decode cX6_within 6 = .ok (.iload_n 2, 1) := by decide +kernel
theorem dX6_within_7 : decode cX6_within 7 = .ok (.if_icmp .gt 7, 3) := by decide +kernel
theorem dX6_within_10 : decode cX6_within 10 = .ok (.iconst 1, 1) := by decide +kernel
theorem dX6_within_11 : decode cX6_within 11 = .ok (.goto 4, 3) := by decide +kernel
theorem dX6_within_14 : decode cX6_within 14 = .ok (.iconst 0, 1) := by decide +kernel
theorem dX6_within_15 : decode cX6_within 15 = .ok (.ireturn, 1) := by decide +kernel
set_option maxRecDepth 20000 in
theorem ggX6_isChoice_X6_within : GoodIn wsX6_isChoice wsX6_within := goodIn_r _ [4] (by decide +kernel) (by decide +kernel)
set_option maxRecDepth 20000 in
theorem gX6_isChoice_X6_within : GoodIn wsX6_isChoice (va_wsS RX6 62 yX6_within wsX6_within) := goodIn_app (goodIn_of _ (by decide +kernel)) ggX6_isChoice_X6_within
theorem dX6_isChoice_0 : decode cX6_isChoice 0 = .ok (.iload_n 0, 1) := by decide +kernel
theorem dX6_isChoice_1 : decode cX6_isChoice 1 = .ok (.iconst 0, 1) := by decide +kernel
theorem dX6_isChoice_2 : decode cX6_isChoice 2 = .ok (.iconst 1, 1) := by decide +kernel
theorem dX6_isChoice_3 : decode cX6_isChoice 3 = .ok (.invokestatic 62, 3) := by decide +kernel
theorem dX6_isChoice_6 : decode cX6_isChoice 6 = .ok (.ireturn, 1) := by decide +kernel
theorem dX6_partInLeastTerms_0 : decode cX6_partInLeastTerms 0 = .ok (.iload_n 2, 1) := by decide +kernel
theorem dX6_partInLeastTerms_1 : decode cX6_partInLeastTerms 1 = .ok (.ifCond .eq 7, 3) := by decide +kernel
theorem dX6_partInLeastTerms_4 : decode cX6_partInLeastTerms 4 = .ok (.iload_n 0, 1) := by decide +kernel
theorem dX6_partInLeastTerms_5 : decode cX6_partInLeastTerms 5 = .ok (.goto 4, 3) := by decide +kernel
theorem dX6_partInLeastTerms_8 : decode cX6_partInLeastTerms 8 = .ok (.iload_n 1, 1) := by decide +kernel
theorem dX6_partInLeastTerms_9 : decode cX6_partInLeastTerms 9 = .ok (.istore_n 3, 1) := by decide +kernel
theorem dX6_partInLeastTerms_10 : decode cX6_partInLeastTerms 10 = .ok (.iload_n 1, 1) := by decide +kernel
theorem dX6_partInLeastTerms_11 : decode cX6_partInLeastTerms 11 = .ok (.istore 4, 2) := by decide +kernel
theorem dX6_partInLeastTerms_13 : decode cX6_partInLeastTerms 13 = .ok (.iload 4, 2) := by decide +kernel
theorem dX6_partInLeastTerms_15 : decode cX6_partInLeastTerms 15 = .ok (.iconst 1, 1) := by decide +kernel
theorem dX6_partInLeastTerms_16 : decode cX6_partInLeastTerms 16 = .ok (.if_icmp .le 28, 3) := by decide +kernel
theorem dX6_partInLeastTerms_19 : decode cX6_partInLeastTerms 19 = .ok (.iload_n 0, 1) := by decide +kernel
theorem dX6_partInLeastTerms_20 : decode cX6_partInLeastTerms 20 = .ok (.iload 4, 2) := by decide +kernel
theorem dX6_partInLeastTerms_22 : decode cX6_partInLeastTerms 22 = .ok (.irem, 1) := by decide +kernel
theorem dX6_partInLeastTerms_23 : decode cX6_partInLeastTerms 23 = .ok (.ifCond .ne 15, 3) := by decide +kernel
theorem dX6_partInLeastTerms_26 : decode cX6_partInLeastTerms 26 = .ok (.iload_n 1, 1) := by decide +kernel
theorem dX6_partInLeastTerms_27 : decode cX6_partInLeastTerms 27 = .ok (.iload 4, 2) := by decide +kernel
theorem dX6_partInLeastTerms_29 : decode cX6_partInLeastTerms 29 = .ok (.irem, 1) := by decide +kernel
theorem dX6_partInLeastTerms_30 : decode cX6_partInLeastTerms 30 = .ok (.ifCond .ne 8, 3) := by decide +kernel
theorem dX6_partInLeastTerms_33 : decode cX6_partInLeastTerms 33 = .ok (.iload_n 3, 1) := by decide +kernel
theorem dX6_partInLeastTerms_34 : decode cX6_partInLeastTerms 34 = .ok (.iload 4, 2) := by decide +kernel
theorem dX6_partInLeastTerms_36 : decode cX6_partInLeastTerms 36 = .ok (.idiv, 1) := by decide +kernel
theorem dX6_partInLeastTerms_37 : decode cX6_partInLeastTerms 37 = .ok (.ireturn, 1) := by decide +kernel
theorem dX6_partInLeastTerms_38 : decode cX6_partInLeastTerms 38 = .ok (.iinc 4 (-1), 3) := by decide +kernel
theorem dX6_partInLeastTerms_41 : decode cX6_partInLeastTerms 41 = .ok (.goto (-28), 3) := by decide +kernel
theorem dX6_partInLeastTerms_44 : decode cX6_partInLeastTerms 44 = .ok (.iload_n 3, 1) := by decide +kernel
theorem dX6_partInLeastTerms_45 : decode cX6_partInLeastTerms 45 = .ok (.ireturn, 1) := by decide +kernel
theorem dX6_turned_0 : decode cX6_turned 0 = .ok (.iload_n 1, 1) := by decide +kernel
theorem dX6_turned_1 : decode cX6_turned 1 = .ok (.istore_n 2, 1) := by decide +kernel
theorem dX6_turned_2 : decode cX6_turned 2 = .ok (.iconst 0, 1) := by decide +kernel
theorem dX6_turned_3 : decode cX6_turned 3 = .ok (.istore_n 3, 1) := by decide +kernel
theorem dX6_turned_4 : decode cX6_turned 4 = .ok (.iconst 0, 1) := by decide +kernel
theorem dX6_turned_5 : decode cX6_turned 5 = .ok (.istore 4, 2) := by decide +kernel
theorem dX6_turned_7 : decode cX6_turned 7 = .ok (.iload 4, 2) := by decide +kernel
theorem dX6_turned_9 : decode cX6_turned 9 = .ok (.iload_n 0, 1) := by decide +kernel
theorem dX6_turned_10 : decode cX6_turned 10 = .ok (.if_icmp .ge 24, 3) := by decide +kernel
theorem dX6_turned_13 : decode cX6_turned 13 = .ok (.iload_n 3, 1) := by decide +kernel
theorem dX6_turned_14 : decode cX6_turned 14 = .ok (.bipush 10, 2) := by decide +kernel
theorem dX6_turned_16 : decode cX6_turned 16 = .ok (.imul, 1) := by decide +kernel
theorem dX6_turned_17 : decode cX6_turned 17 = .ok (.iload_n 2, 1) := by decide +kernel
theorem dX6_turned_18 : decode cX6_turned 18 = .ok (.bipush 10, 2) := by decide +kernel
theorem dX6_turned_20 : decode cX6_turned 20 = .ok (.irem, 1) := by decide +kernel
theorem dX6_turned_21 : decode cX6_turned 21 = .ok (.iadd, 1) := by decide +kernel
theorem dX6_turned_22 : decode cX6_turned 22 = .ok (.istore_n 3, 1) := by decide +kernel
theorem dX6_turned_23 : decode cX6_turned 23 = .ok (.iload_n 2, 1) := by decide +kernel
theorem dX6_turned_24 : decode cX6_turned 24 = .ok (.bipush 10, 2) := by decide +kernel
theorem dX6_turned_26 : decode cX6_turned 26 = .ok (.idiv, 1) := by decide +kernel
theorem dX6_turned_27 : decode cX6_turned 27 = .ok (.istore_n 2, 1) := by decide +kernel
theorem dX6_turned_28 : decode cX6_turned 28 = .ok (.iinc 4 1, 3) := by decide +kernel
theorem dX6_turned_31 : decode cX6_turned 31 = .ok (.goto (-24), 3) := by decide +kernel
theorem dX6_turned_34 : decode cX6_turned 34 = .ok (.iload_n 3, 1) := by decide +kernel
theorem dX6_turned_35 : decode cX6_turned 35 = .ok (.ireturn, 1) := by decide +kernel
theorem dX6_hasFigure_0 : decode cX6_hasFigure 0 = .ok (.iload_n 0, 1) := by decide +kernel
theorem dX6_hasFigure_1 : decode cX6_hasFigure 1 = .ok (.istore_n 2, 1) := by decide +kernel
theorem dX6_hasFigure_2 : decode cX6_hasFigure 2 = .ok (.iload_n 2, 1) := by decide +kernel
theorem dX6_hasFigure_3 : decode cX6_hasFigure 3 = .ok (.ifCond .le 21, 3) := by decide +kernel
theorem dX6_hasFigure_6 : decode cX6_hasFigure 6 = .ok (.iload_n 2, 1) := by decide +kernel
theorem dX6_hasFigure_7 : decode cX6_hasFigure 7 = .ok (.bipush 10, 2) := by decide +kernel
theorem dX6_hasFigure_9 : decode cX6_hasFigure 9 = .ok (.irem, 1) := by decide +kernel
theorem dX6_hasFigure_10 : decode cX6_hasFigure 10 = .ok (.iload_n 1, 1) := by decide +kernel
theorem dX6_hasFigure_11 : decode cX6_hasFigure 11 = .ok (.if_icmp .ne 5, 3) := by decide +kernel
theorem dX6_hasFigure_14 : decode cX6_hasFigure 14 = .ok (.iconst 1, 1) := by decide +kernel
theorem dX6_hasFigure_15 : decode cX6_hasFigure 15 = .ok (.ireturn, 1) := by decide +kernel
theorem dX6_hasFigure_16 : decode cX6_hasFigure 16 = .ok (.iload_n 2, 1) := by decide +kernel
theorem dX6_hasFigure_17 : decode cX6_hasFigure 17 = .ok (.bipush 10, 2) := by decide +kernel
theorem dX6_hasFigure_19 : decode cX6_hasFigure 19 = .ok (.idiv, 1) := by decide +kernel
theorem dX6_hasFigure_20 : decode cX6_hasFigure 20 = .ok (.istore_n 2, 1) := by decide +kernel
theorem dX6_hasFigure_21 : decode cX6_hasFigure 21 = .ok (.goto (-19), 3) := by decide +kernel
theorem dX6_hasFigure_24 : decode cX6_hasFigure 24 = .ok (.iconst 0, 1) := by decide +kernel
theorem dX6_hasFigure_25 : decode cX6_hasFigure 25 = .ok (.ireturn, 1) := by decide +kernel
theorem dX6_figuresIn_0 : decode cX6_figuresIn 0 = .ok (.iconst 0, 1) := by decide +kernel
theorem dX6_figuresIn_1 : decode cX6_figuresIn 1 = .ok (.istore_n 1, 1) := by decide +kernel
theorem dX6_figuresIn_2 : decode cX6_figuresIn 2 = .ok (.iload_n 0, 1) := by decide +kernel
theorem dX6_figuresIn_3 : decode cX6_figuresIn 3 = .ok (.istore_n 2, 1) := by decide +kernel
theorem dX6_figuresIn_4 : decode cX6_figuresIn 4 = .ok (.iload_n 2, 1) := by decide +kernel
theorem dX6_figuresIn_5 : decode cX6_figuresIn 5 = .ok (.ifCond .le 14, 3) := by decide +kernel
theorem dX6_figuresIn_8 : decode cX6_figuresIn 8 = .ok (.iinc 1 1, 3) := by decide +kernel
theorem dX6_figuresIn_11 : decode cX6_figuresIn 11 = .ok (.iload_n 2, 1) := by decide +kernel
theorem dX6_figuresIn_12 : decode cX6_figuresIn 12 = .ok (.bipush 10, 2) := by decide +kernel
theorem dX6_figuresIn_14 : decode cX6_figuresIn 14 = .ok (.idiv, 1) := by decide +kernel
theorem dX6_figuresIn_15 : decode cX6_figuresIn 15 = .ok (.istore_n 2, 1) := by decide +kernel
theorem dX6_figuresIn_16 : decode cX6_figuresIn 16 = .ok (.goto (-12), 3) := by decide +kernel
theorem dX6_figuresIn_19 : decode cX6_figuresIn 19 = .ok (.iload_n 1, 1) := by decide +kernel
theorem dX6_figuresIn_20 : decode cX6_figuresIn 20 = .ok (.ireturn, 1) := by decide +kernel
theorem dX6_firstOf_0 : decode cX6_firstOf 0 = .ok (.iload_n 0, 1) := by decide +kernel
theorem dX6_firstOf_1 : decode cX6_firstOf 1 = .ok (.bipush 100, 2) := by decide +kernel
theorem dX6_firstOf_3 : decode cX6_firstOf 3 = .ok (.if_icmp .lt 8, 3) := by decide +kernel
theorem dX6_firstOf_6 : decode cX6_firstOf 6 = .ok (.iload_n 0, 1) := by decide +kernel
theorem dX6_firstOf_7 : decode cX6_firstOf 7 = .ok (.bipush 100, 2) := by decide +kernel
theorem dX6_firstOf_9 : decode cX6_firstOf 9 = .ok (.idiv, 1) := by decide +kernel
theorem dX6_firstOf_10 : decode cX6_firstOf 10 = .ok (.ireturn, 1) := by decide +kernel
theorem dX6_firstOf_11 : decode cX6_firstOf 11 = .ok (.iload_n 0, 1) := by decide +kernel
theorem dX6_firstOf_12 : decode cX6_firstOf 12 = .ok (.bipush 10, 2) := by decide +kernel
theorem dX6_firstOf_14 : decode cX6_firstOf 14 = .ok (.if_icmp .lt 10, 3) := by decide +kernel
theorem dX6_firstOf_17 : decode cX6_firstOf 17 = .ok (.iload_n 0, 1) := by decide +kernel
theorem dX6_firstOf_18 : decode cX6_firstOf 18 = .ok (.bipush 10, 2) := by decide +kernel
theorem dX6_firstOf_20 : decode cX6_firstOf 20 = .ok (.idiv, 1) := by decide +kernel
theorem dX6_firstOf_21 : decode cX6_firstOf 21 = .ok (.goto 4, 3) := by decide +kernel
theorem dX6_firstOf_24 : decode cX6_firstOf 24 = .ok (.iload_n 0, 1) := by decide +kernel
theorem dX6_firstOf_25 : decode cX6_firstOf 25 = .ok (.ireturn, 1) := by decide +kernel
theorem dX6_lastOf_0 : decode cX6_lastOf 0 = .ok (.iload_n 0, 1) := by decide +kernel
theorem dX6_lastOf_1 : decode cX6_lastOf 1 = .ok (.bipush 10, 2) := by decide +kernel
theorem dX6_lastOf_3 : decode cX6_lastOf 3 = .ok (.irem, 1) := by decide +kernel
theorem dX6_lastOf_4 : decode cX6_lastOf 4 = .ok (.ireturn, 1) := by decide +kernel
theorem dX6_withoutLast_0 : decode cX6_withoutLast 0 = .ok (.iload_n 0, 1) := by decide +kernel
theorem dX6_withoutLast_1 : decode cX6_withoutLast 1 = .ok (.bipush 10, 2) := by decide +kernel
theorem dX6_withoutLast_3 : decode cX6_withoutLast 3 = .ok (.idiv, 1) := by decide +kernel
theorem dX6_withoutLast_4 : decode cX6_withoutLast 4 = .ok (.ireturn, 1) := by decide +kernel
theorem dX6_withBehind_0 : decode cX6_withBehind 0 = .ok (.iload_n 2, 1) := by decide +kernel
theorem dX6_withBehind_1 : decode cX6_withBehind 1 = .ok (.iconst 1, 1) := by decide +kernel
theorem dX6_withBehind_2 : decode cX6_withBehind 2 = .ok (.if_icmp .gt 5, 3) := by decide +kernel
theorem dX6_withBehind_5 : decode cX6_withBehind 5 = .ok (.iload_n 1, 1) := by decide +kernel
theorem dX6_withBehind_6 : decode cX6_withBehind 6 = .ok (.ireturn, 1) := by decide +kernel
theorem dX6_withBehind_7 : decode cX6_withBehind 7 = .ok (.iload_n 2, 1) := by decide +kernel
theorem dX6_withBehind_8 : decode cX6_withBehind 8 = .ok (.iconst 2, 1) := by decide +kernel
theorem dX6_withBehind_9 : decode cX6_withBehind 9 = .ok (.if_icmp .ne 15, 3) := by decide +kernel
theorem dX6_withBehind_12 : decode cX6_withBehind 12 = .ok (.iload_n 0, 1) := by decide +kernel
theorem dX6_withBehind_13 : decode cX6_withBehind 13 = .ok (.bipush 10, 2) := by decide +kernel
theorem dX6_withBehind_15 : decode cX6_withBehind 15 = .ok (.irem, 1) := by decide +kernel
theorem dX6_withBehind_16 : decode cX6_withBehind 16 = .ok (.bipush 10, 2) := by decide +kernel
theorem dX6_withBehind_18 : decode cX6_withBehind 18 = .ok (.imul, 1) := by decide +kernel
theorem dX6_withBehind_19 : decode cX6_withBehind 19 = .ok (.iload_n 1, 1) := by decide +kernel
theorem dX6_withBehind_20 : decode cX6_withBehind 20 = .ok (.iadd, 1) := by decide +kernel
theorem dX6_withBehind_21 : decode cX6_withBehind 21 = .ok (.goto 12, 3) := by decide +kernel
theorem dX6_withBehind_24 : decode cX6_withBehind 24 = .ok (.iload_n 0, 1) := by decide +kernel
theorem dX6_withBehind_25 : decode cX6_withBehind 25 = .ok (.bipush 100, 2) := by decide +kernel
theorem dX6_withBehind_27 : decode cX6_withBehind 27 = .ok (.irem, 1) := by decide +kernel
theorem dX6_withBehind_28 : decode cX6_withBehind 28 = .ok (.bipush 10, 2) := by decide +kernel
theorem dX6_withBehind_30 : decode cX6_withBehind 30 = .ok (.imul, 1) := by decide +kernel
theorem dX6_withBehind_31 : decode cX6_withBehind 31 = .ok (.iload_n 1, 1) := by decide +kernel
theorem dX6_withBehind_32 : decode cX6_withBehind 32 = .ok (.iadd, 1) := by decide +kernel
theorem dX6_withBehind_33 : decode cX6_withBehind 33 = .ok (.ireturn, 1) := by decide +kernel
theorem dX6_at_0 : decode cX6_at 0 = .ok (.iload_n 1, 1) := by decide +kernel
theorem dX6_at_1 : decode cX6_at 1 = .ok (.ifCond .lt 15, 3) := by decide +kernel
theorem dX6_at_4 : decode cX6_at 4 = .ok (.iload_n 1, 1) := by decide +kernel
theorem dX6_at_5 : decode cX6_at 5 = .ok (.aload_n 0, 1) := by decide +kernel
theorem dX6_at_6 : decode cX6_at 6 = .ok (.arraylength, 1) := by decide +kernel
theorem dX6_at_7 : decode cX6_at 7 = .ok (.if_icmp .ge 9, 3) := by decide +kernel
theorem dX6_at_10 : decode cX6_at 10 = .ok (.aload_n 0, 1) := by decide +kernel
theorem dX6_at_11 : decode cX6_at 11 = .ok (.iload_n 1, 1) := by decide +kernel
theorem dX6_at_12 : decode cX6_at 12 = .ok (.iaload, 1) := by decide +kernel
theorem dX6_at_13 : decode cX6_at 13 = .ok (.goto 4, 3) := by decide +kernel
theorem dX6_at_16 : decode cX6_at 16 = .ok (.iconst 0, 1) := by decide +kernel
theorem dX6_at_17 : decode cX6_at 17 = .ok (.ireturn, 1) := by decide +kernel
theorem dX6_put_0 : decode cX6_put 0 = .ok (.iload_n 1, 1) := by decide +kernel
theorem dX6_put_1 : decode cX6_put 1 = .ok (.ifCond .lt 13, 3) := by decide +kernel
theorem dX6_put_4 : decode cX6_put 4 = .ok (.iload_n 1, 1) := by decide +kernel
theorem dX6_put_5 : decode cX6_put 5 = .ok (.aload_n 0, 1) := by decide +kernel
theorem dX6_put_6 : decode cX6_put 6 = .ok (.arraylength, 1) := by decide +kernel
theorem dX6_put_7 : decode cX6_put 7 = .ok (.if_icmp .ge 7, 3) := by decide +kernel
theorem dX6_put_10 : decode cX6_put 10 = .ok (.aload_n 0, 1) := by decide +kernel
theorem dX6_put_11 : decode cX6_put 11 = .ok (.iload_n 1, 1) := by decide +kernel
theorem dX6_put_12 : decode cX6_put 12 = .ok (.iload_n 2, 1) := by decide +kernel
theorem dX6_put_13 : decode cX6_put 13 = .ok (.iastore, 1) := by decide +kernel
theorem dX6_put_14 : decode cX6_put 14 = .ok (.return_, 1) := by decide +kernel
theorem dX6_copyRow_0 : decode cX6_copyRow 0 = .ok (.iconst 0, 1) := by decide +kernel
theorem dX6_copyRow_1 : decode cX6_copyRow 1 = .ok (.istore_n 2, 1) := by decide +kernel
theorem dX6_copyRow_2 : decode cX6_copyRow 2 = .ok (.iload_n 2, 1) := by decide +kernel
theorem dX6_copyRow_3 : decode cX6_copyRow 3 = .ok (.aload_n 0, 1) := by decide +kernel
theorem dX6_copyRow_4 : decode cX6_copyRow 4 = .ok (.arraylength, 1) := by decide +kernel
theorem dX6_copyRow_5 : decode cX6_copyRow 5 = .ok (.if_icmp .ge 21, 3) := by decide +kernel
theorem dX6_copyRow_8 : decode cX6_copyRow 8 = .ok (.iload_n 2, 1) := by decide +kernel
theorem dX6_copyRow_9 : decode cX6_copyRow 9 = .ok (.aload_n 1, 1) := by decide +kernel
theorem dX6_copyRow_10 : decode cX6_copyRow 10 = .ok (.arraylength, 1) := by decide +kernel
theorem dX6_copyRow_11 : decode cX6_copyRow 11 = .ok (.if_icmp .ge 15, 3) := by decide +kernel
theorem dX6_copyRow_14 : decode cX6_copyRow 14 = .ok (.aload_n 1, 1) := by decide +kernel
theorem dX6_copyRow_15 : decode cX6_copyRow 15 = .ok (.iload_n 2, 1) := by decide +kernel
theorem dX6_copyRow_16 : decode cX6_copyRow 16 = .ok (.aload_n 0, 1) := by decide +kernel
theorem dX6_copyRow_17 : decode cX6_copyRow 17 = .ok (.iload_n 2, 1) := by decide +kernel
theorem dX6_copyRow_18 : decode cX6_copyRow 18 = .ok (.iaload, 1) := by decide +kernel
theorem dX6_copyRow_19 : decode cX6_copyRow 19 = .ok (.iastore, 1) := by decide +kernel
theorem dX6_copyRow_20 : decode cX6_copyRow 20 = .ok (.iinc 2 1, 3) := by decide +kernel
theorem dX6_copyRow_23 : decode cX6_copyRow 23 = .ok (.goto (-21), 3) := by decide +kernel
theorem dX6_copyRow_26 : decode cX6_copyRow 26 = .ok (.return_, 1) := by decide +kernel
end
section
theorem dX7_init_0 : decode cX7_init 0 = .ok (.aload_n 0, 1) := by decide +kernel
theorem dX7_init_1 : decode cX7_init 1 = .ok (.invokespecial 1, 3) := by decide +kernel
theorem dX7_init_4 : decode cX7_init 4 = .ok (.aload_n 0, 1) := by decide +kernel
theorem dX7_init_5 : decode cX7_init 5 = .ok (.bipush 40, 2) := by decide +kernel
theorem dX7_init_7 : decode cX7_init 7 = .ok (.newarray .int, 2) := by decide +kernel
theorem dX7_init_9 : decode cX7_init 9 = .ok (.putfield 7, 3) := by decide +kernel
theorem dX7_init_12 : decode cX7_init 12 = .ok (.aload_n 0, 1) := by decide +kernel
theorem dX7_init_13 : decode cX7_init 13 = .ok (.bipush 15, 2) := by decide +kernel
theorem dX7_init_15 : decode cX7_init 15 = .ok (.newarray .int, 2) := by decide +kernel
theorem dX7_init_17 : decode cX7_init 17 = .ok (.putfield 13, 3) := by decide +kernel
theorem dX7_init_20 : decode cX7_init 20 = .ok (.aload_n 0, 1) := by decide +kernel
theorem dX7_init_21 : decode cX7_init 21 = .ok (.bipush 12, 2) := by decide +kernel
theorem dX7_init_23 : decode cX7_init 23 = .ok (.newarray .int, 2) := by decide +kernel
theorem dX7_init_25 : decode cX7_init 25 = .ok (.putfield 16, 3) := by decide +kernel
theorem dX7_init_28 : decode cX7_init 28 = .ok (.aload_n 0, 1) := by decide +kernel
theorem dX7_init_29 : decode cX7_init 29 = .ok (.bipush 15, 2) := by decide +kernel
theorem dX7_init_31 : decode cX7_init 31 = .ok (.newarray .int, 2) := by decide +kernel
theorem dX7_init_33 : decode cX7_init 33 = .ok (.putfield 19, 3) := by decide +kernel
theorem dX7_init_36 : decode cX7_init 36 = .ok (.aload_n 0, 1) := by decide +kernel
theorem dX7_init_37 : decode cX7_init 37 = .ok (.bipush 12, 2) := by decide +kernel
theorem dX7_init_39 : decode cX7_init 39 = .ok (.newarray .int, 2) := by decide +kernel
theorem dX7_init_41 : decode cX7_init 41 = .ok (.putfield 22, 3) := by decide +kernel
theorem dX7_init_44 : decode cX7_init 44 = .ok (.aload_n 0, 1) := by decide +kernel
theorem dX7_init_45 : decode cX7_init 45 = .ok (.bipush 21, 2) := by decide +kernel
theorem dX7_init_47 : decode cX7_init 47 = .ok (.newarray .int, 2) := by decide +kernel
theorem dX7_init_49 : decode cX7_init 49 = .ok (.putfield 25, 3) := by decide +kernel
theorem dX7_init_52 : decode cX7_init 52 = .ok (.aload_n 0, 1) := by decide +kernel
theorem dX7_init_53 : decode cX7_init 53 = .ok (.bipush 21, 2) := by decide +kernel
theorem dX7_init_55 : decode cX7_init 55 = .ok (.newarray .int, 2) := by decide +kernel
theorem dX7_init_57 : decode cX7_init 57 = .ok (.putfield 28, 3) := by decide +kernel
theorem dX7_init_60 : decode cX7_init 60 = .ok (.aload_n 0, 1) := by decide +kernel
theorem dX7_init_61 : decode cX7_init 61 = .ok (.sipush 294, 3) := by decide +kernel
theorem dX7_init_64 : decode cX7_init 64 = .ok (.newarray .int, 2) := by decide +kernel
theorem dX7_init_66 : decode cX7_init 66 = .ok (.putfield 31, 3) := by decide +kernel
theorem dX7_init_69 : decode cX7_init 69 = .ok (.aload_n 0, 1) := by decide +kernel
theorem dX7_init_70 : decode cX7_init 70 = .ok (.bipush 42, 2) := by decide +kernel
theorem dX7_init_72 : decode cX7_init 72 = .ok (.newarray .int, 2) := by decide +kernel
theorem dX7_init_74 : decode cX7_init 74 = .ok (.putfield 34, 3) := by decide +kernel
theorem dX7_init_77 : decode cX7_init 77 = .ok (.aload_n 0, 1) := by decide +kernel
theorem dX7_init_78 : decode cX7_init 78 = .ok (.iconst 2, 1) := by decide +kernel
theorem dX7_init_79 : decode cX7_init 79 = .ok (.newarray .boolean, 2) := by decide +kernel
theorem dX7_init_81 : decode cX7_init 81 = .ok (.putfield 37, 3) := by decide +kernel
theorem dX7_init_84 : decode cX7_init 84 = .ok (.aload_n 0, 1) := by decide +kernel
theorem dX7_init_85 : decode cX7_init 85 = .ok (.iconst 4, 1) := by decide +kernel
theorem dX7_init_86 : decode cX7_init 86 = .ok (.newarray .int, 2) := by decide +kernel
theorem dX7_init_88 : decode cX7_init 88 = .ok (.putfield 41, 3) := by decide +kernel
theorem dX7_init_91 : decode cX7_init 91 = .ok (.aload_n 0, 1) := by decide +kernel
theorem dX7_init_92 : decode cX7_init 92 = .ok (.iconst 4, 1) := by decide +kernel
theorem dX7_init_93 : decode cX7_init 93 = .ok (.newarray .int, 2) := by decide +kernel
theorem dX7_init_95 : decode cX7_init 95 = .ok (.putfield 44, 3) := by decide +kernel
theorem dX7_init_98 : decode cX7_init 98 = .ok (.aload_n 0, 1) := by decide +kernel
theorem dX7_init_99 : decode cX7_init 99 = .ok (.iconst 4, 1) := by decide +kernel
theorem dX7_init_100 : decode cX7_init 100 = .ok (.newarray .int, 2) := by decide +kernel
theorem dX7_init_102 : decode cX7_init 102 = .ok (.putfield 47, 3) := by decide +kernel
theorem dX7_init_105 : decode cX7_init 105 = .ok (.return_, 1) := by decide +kernel
theorem dX7_in_0 : decode cX7_in 0 = .ok (.lload_n 0, 1) := by decide +kernel
theorem dX7_in_1 : decode cX7_in 1 = .ok (.lload_n 2, 1) := by decide +kernel
theorem dX7_in_2 : decode cX7_in 2 = .ok (.lcmp, 1) := by decide +kernel
theorem dX7_in_3 : decode cX7_in 3 = .ok (.ifCond .lt 14, 3) := by decide +kernel
theorem dX7_in_6 : decode cX7_in 6 = .ok (.lload_n 0, 1) := by decide +kernel
theorem dX7_in_7 : decode cX7_in 7 = .ok (.lload 4, 2) := by decide +kernel
theorem dX7_in_9 : decode cX7_in 9 = .ok (.lcmp, 1) := by decide +kernel
theorem dX7_in_10 : decode cX7_in 10 = .ok (.ifCond .gt 7, 3) := by decide +kernel
theorem dX7_in_13 : decode cX7_in 13 = .ok (.iconst 1, 1) := by decide +kernel
theorem dX7_in_14 : decode cX7_in 14 = .ok (.goto 4, 3) := by decide +kernel
theorem dX7_in_17 : decode cX7_in 17 = .ok (.iconst 0, 1) := by decide +kernel
theorem dX7_in_18 : decode cX7_in 18 = .ok (.ireturn, 1) := by decide +kernel
set_option maxRecDepth 20000 in
theorem ggX7_noPerson_X7_in : GoodIn wsX7_noPerson wsX7_in := goodIn_r _ [5] (by decide +kernel) (by decide +kernel)
set_option maxRecDepth 20000 in
theorem gX7_noPerson_X7_in : GoodIn wsX7_noPerson (va_wsS RX7 57 yX7_in wsX7_in) := goodIn_app (goodIn_of _ (by decide +kernel)) ggX7_noPerson_X7_in
theorem dX7_noPerson_0 : decode cX7_noPerson 0 = .ok (.iload_n 1, 1) := by decide +kernel
theorem dX7_noPerson_1 : decode cX7_noPerson 1 = .ok (.i2l, 1) := by decide +kernel
theorem dX7_noPerson_2 : decode cX7_noPerson 2 = .ok (.lconst 0, 1) := by decide +kernel
theorem dX7_noPerson_3 : decode cX7_noPerson 3 = .ok (.aload_n 0, 1) := by decide +kernel
theorem dX7_noPerson_4 : decode cX7_noPerson 4 = .ok (.getfield 54, 3) := by decide +kernel
theorem dX7_noPerson_7 : decode cX7_noPerson 7 = .ok (.iconst 1, 1) := by decide +kernel
theorem dX7_noPerson_8 : decode cX7_noPerson 8 = .ok (.isub, 1) := by decide +kernel
theorem dX7_noPerson_9 : decode cX7_noPerson 9 = .ok (.i2l, 1) := by decide +kernel
theorem dX7_noPerson_10 : decode cX7_noPerson 10 = .ok (.invokestatic 57, 3) := by decide +kernel
theorem dX7_noPerson_13 : decode cX7_noPerson 13 = .ok (.ifCond .ne 7, 3) := by decide +kernel
theorem dX7_noPerson_16 : decode cX7_noPerson 16 = .ok (.iconst 1, 1) := by decide +kernel
theorem dX7_noPerson_17 : decode cX7_noPerson 17 = .ok (.goto 4, 3) := by decide +kernel
theorem dX7_noPerson_20 : decode cX7_noPerson 20 = .ok (.iconst 0, 1) := by decide +kernel
theorem dX7_noPerson_21 : decode cX7_noPerson 21 = .ok (.ireturn, 1) := by decide +kernel
set_option maxRecDepth 20000 in
theorem ggX7_noGlove_X7_in : GoodIn wsX7_noGlove wsX7_in := goodIn_r _ [5] (by decide +kernel) (by decide +kernel)
set_option maxRecDepth 20000 in
theorem gX7_noGlove_X7_in : GoodIn wsX7_noGlove (va_wsS RX7 57 yX7_in wsX7_in) := goodIn_app (goodIn_of _ (by decide +kernel)) ggX7_noGlove_X7_in
theorem dX7_noGlove_0 : decode cX7_noGlove 0 = .ok (.iload_n 1, 1) := by decide +kernel
theorem dX7_noGlove_1 : decode cX7_noGlove 1 = .ok (.i2l, 1) := by decide +kernel
theorem dX7_noGlove_2 : decode cX7_noGlove 2 = .ok (.lconst 0, 1) := by decide +kernel
theorem dX7_noGlove_3 : decode cX7_noGlove 3 = .ok (.aload_n 0, 1) := by decide +kernel
theorem dX7_noGlove_4 : decode cX7_noGlove 4 = .ok (.getfield 61, 3) := by decide +kernel
theorem dX7_noGlove_7 : decode cX7_noGlove 7 = .ok (.iconst 1, 1) := by decide +kernel
theorem dX7_noGlove_8 : decode cX7_noGlove 8 = .ok (.isub, 1) := by decide +kernel
theorem dX7_noGlove_9 : decode cX7_noGlove 9 = .ok (.i2l, 1) := by decide +kernel
theorem dX7_noGlove_10 : decode cX7_noGlove 10 = .ok (.invokestatic 57, 3) := by decide +kernel
theorem dX7_noGlove_13 : decode cX7_noGlove 13 = .ok (.ifCond .ne 7, 3) := by decide +kernel
theorem dX7_noGlove_16 : decode cX7_noGlove 16 = .ok (.iconst 1, 1) := by decide +kernel
theorem dX7_noGlove_17 : decode cX7_noGlove 17 = .ok (.goto 4, 3) := by decide +kernel
theorem dX7_noGlove_20 : decode cX7_noGlove 20 = .ok (.iconst 0, 1) := by decide +kernel
theorem dX7_noGlove_21 : decode cX7_noGlove 21 = .ok (.ireturn, 1) := by decide +kernel
set_option maxRecDepth 20000 in
theorem ggX7_write_X7_in : GoodIn wsX7_write wsX7_in := goodIn_r _ [8] (by decide +kernel) (by decide +kernel)
set_option maxRecDepth 20000 in
theorem gX7_write_X7_in : GoodIn wsX7_write (va_wsS RX7 57 yX7_in wsX7_in) := goodIn_app (goodIn_of _ (by decide +kernel)) ggX7_write_X7_in
theorem dX7_write_0 : decode cX7_write 0 = .ok (.aload_n 0, 1) := by decide +kernel
theorem dX7_write_1 : decode cX7_write 1 = .ok (.iconst 0, 1) := by decide +kernel
theorem dX7_write_2 : decode cX7_write 2 = .ok (.putfield 50, 3) := by decide +kernel
theorem dX7_write_5 : decode cX7_write 5 = .ok (.iload_n 1, 1) := by decide +kernel
theorem dX7_write_6 : decode cX7_write 6 = .ok (.i2l, 1) := by decide +kernel
theorem dX7_write_7 : decode cX7_write 7 = .ok (.lconst 0, 1) := by decide +kernel
theorem dX7_write_8 : decode cX7_write 8 = .ok (.ldc2_w 64, 3) := by decide +kernel
theorem dX7_write_11 : decode cX7_write 11 = .ok (.invokestatic 57, 3) := by decide +kernel
theorem dX7_write_14 : decode cX7_write 14 = .ok (.ifCond .ne 6, 3) := by decide +kernel
theorem dX7_write_17 : decode cX7_write 17 = .ok (.bipush (-2), 2) := by decide +kernel
theorem dX7_write_19 : decode cX7_write 19 = .ok (.ireturn, 1) := by decide +kernel
theorem dX7_write_20 : decode cX7_write 20 = .ok (.aload_n 0, 1) := by decide +kernel
theorem dX7_write_21 : decode cX7_write 21 = .ok (.getfield 66, 3) := by decide +kernel
theorem dX7_write_24 : decode cX7_write 24 = .ok (.bipush 40, 2) := by decide +kernel
theorem dX7_write_26 : decode cX7_write 26 = .ok (.if_icmp .ne 6, 3) := by decide +kernel
theorem dX7_write_29 : decode cX7_write 29 = .ok (.bipush (-4), 2) := by decide +kernel
theorem dX7_write_31 : decode cX7_write 31 = .ok (.ireturn, 1) := by decide +kernel
theorem dX7_write_32 : decode cX7_write 32 = .ok (.aload_n 0, 1) := by decide +kernel
theorem dX7_write_33 : decode cX7_write 33 = .ok (.getfield 7, 3) := by decide +kernel
theorem dX7_write_36 : decode cX7_write 36 = .ok (.aload_n 0, 1) := by decide +kernel
theorem dX7_write_37 : decode cX7_write 37 = .ok (.getfield 66, 3) := by decide +kernel
theorem dX7_write_40 : decode cX7_write 40 = .ok (.iload_n 1, 1) := by decide +kernel
theorem dX7_write_41 : decode cX7_write 41 = .ok (.iastore, 1) := by decide +kernel
theorem dX7_write_42 : decode cX7_write 42 = .ok (.aload_n 0, 1) := by decide +kernel
theorem dX7_write_43 : decode cX7_write 43 = .ok (.dup, 1) := by decide +kernel
theorem dX7_write_44 : decode cX7_write 44 = .ok (.getfield 66, 3) := by decide +kernel
theorem dX7_write_47 : decode cX7_write 47 = .ok (.iconst 1, 1) := by decide +kernel
theorem dX7_write_48 : decode cX7_write 48 = .ok (.iadd, 1) := by decide +kernel
theorem dX7_write_49 : decode cX7_write 49 = .ok (.putfield 66, 3) := by decide +kernel
theorem dX7_write_52 : decode cX7_write 52 = .ok (.aload_n 0, 1) := by decide +kernel
theorem dX7_write_53 : decode cX7_write 53 = .ok (.getfield 66, 3) := by decide +kernel
theorem dX7_write_56 : decode cX7_write 56 = .ok (.ireturn, 1) := by decide +kernel
theorem dX7_wipe_0 : decode cX7_wipe 0 = .ok (.aload_n 0, 1) := by decide +kernel
theorem dX7_wipe_1 : decode cX7_wipe 1 = .ok (.iconst 0, 1) := by decide +kernel
theorem dX7_wipe_2 : decode cX7_wipe 2 = .ok (.putfield 50, 3) := by decide +kernel
theorem dX7_wipe_5 : decode cX7_wipe 5 = .ok (.aload_n 0, 1) := by decide +kernel
theorem dX7_wipe_6 : decode cX7_wipe 6 = .ok (.getfield 66, 3) := by decide +kernel
theorem dX7_wipe_9 : decode cX7_wipe 9 = .ok (.istore_n 1, 1) := by decide +kernel
theorem dX7_wipe_10 : decode cX7_wipe 10 = .ok (.aload_n 0, 1) := by decide +kernel
theorem dX7_wipe_11 : decode cX7_wipe 11 = .ok (.iconst 0, 1) := by decide +kernel
theorem dX7_wipe_12 : decode cX7_wipe 12 = .ok (.putfield 66, 3) := by decide +kernel
theorem dX7_wipe_15 : decode cX7_wipe 15 = .ok (.iload_n 1, 1) := by decide +kernel
theorem dX7_wipe_16 : decode cX7_wipe 16 = .ok (.ireturn, 1) := by decide +kernel
set_option maxRecDepth 20000 in
theorem ggX7_figure_X7_in : GoodIn wsX7_figure wsX7_in := goodIn_r _ [7] (by decide +kernel) (by decide +kernel)
set_option maxRecDepth 20000 in
theorem gX7_figure_X7_in : GoodIn wsX7_figure (va_wsS RX7 57 yX7_in wsX7_in) := goodIn_app (goodIn_of _ (by decide +kernel)) ggX7_figure_X7_in
theorem dX7_figure_0 : decode cX7_figure 0 = .ok (.aload_n 0, 1) := by decide +kernel
theorem dX7_figure_1 : decode cX7_figure 1 = .ok (.getfield 69, 3) := by decide +kernel
theorem dX7_figure_4 : decode cX7_figure 4 = .ok (.aload_n 0, 1) := by decide +kernel
theorem dX7_figure_5 : decode cX7_figure 5 = .ok (.getfield 66, 3) := by decide +kernel
theorem dX7_figure_8 : decode cX7_figure 8 = .ok (.if_icmp .eq 26, 3) := by decide +kernel
theorem dX7_figure_11 : decode cX7_figure 11 = .ok (.aload_n 0, 1) := by decide +kernel
theorem dX7_figure_12 : decode cX7_figure 12 = .ok (.getfield 7, 3) := by decide +kernel
theorem dX7_figure_15 : decode cX7_figure 15 = .ok (.aload_n 0, 1) := by decide +kernel
theorem dX7_figure_16 : decode cX7_figure 16 = .ok (.getfield 69, 3) := by decide +kernel
theorem dX7_figure_19 : decode cX7_figure 19 = .ok (.iaload, 1) := by decide +kernel
theorem dX7_figure_20 : decode cX7_figure 20 = .ok (.bipush 48, 2) := by decide +kernel
theorem dX7_figure_22 : decode cX7_figure 22 = .ok (.isub, 1) := by decide +kernel
theorem dX7_figure_23 : decode cX7_figure 23 = .ok (.i2l, 1) := by decide +kernel
theorem dX7_figure_24 : decode cX7_figure 24 = .ok (.iload_n 1, 1) := by decide +kernel
theorem dX7_figure_25 : decode cX7_figure 25 = .ok (.i2l, 1) := by decide +kernel
theorem dX7_figure_26 : decode cX7_figure 26 = .ok (.iload_n 2, 1) := by decide +kernel
theorem dX7_figure_27 : decode cX7_figure 27 = .ok (.i2l, 1) := by decide +kernel
theorem dX7_figure_28 : decode cX7_figure 28 = .ok (.invokestatic 57, 3) := by decide +kernel
theorem dX7_figure_31 : decode cX7_figure 31 = .ok (.ifCond .ne 6, 3) := by decide +kernel
theorem dX7_figure_34 : decode cX7_figure 34 = .ok (.bipush (-9), 2) := by decide +kernel
theorem dX7_figure_36 : decode cX7_figure 36 = .ok (.ireturn, 1) := by decide +kernel
theorem dX7_figure_37 : decode cX7_figure 37 = .ok (.aload_n 0, 1) := by decide +kernel
theorem dX7_figure_38 : decode cX7_figure 38 = .ok (.dup, 1) := by decide +kernel
theorem dX7_figure_39 : decode cX7_figure 39 = .ok (.getfield 69, 3) := by decide +kernel
theorem dX7_figure_42 : decode cX7_figure 42 = .ok (.iconst 1, 1) := by decide +kernel
theorem dX7_figure_43 : decode cX7_figure 43 = .ok (.iadd, 1) := by decide +kernel
theorem dX7_figure_44 : decode cX7_figure 44 = .ok (.putfield 69, 3) := by decide +kernel
theorem dX7_figure_47 : decode cX7_figure 47 = .ok (.aload_n 0, 1) := by decide +kernel
theorem dX7_figure_48 : decode cX7_figure 48 = .ok (.getfield 7, 3) := by decide +kernel
theorem dX7_figure_51 : decode cX7_figure 51 = .ok (.aload_n 0, 1) := by decide +kernel
theorem dX7_figure_52 : decode cX7_figure 52 = .ok (.getfield 69, 3) := by decide +kernel
theorem dX7_figure_55 : decode cX7_figure 55 = .ok (.iconst 1, 1) := by decide +kernel
theorem dX7_figure_56 : decode cX7_figure 56 = .ok (.isub, 1) := by decide +kernel
theorem dX7_figure_57 : decode cX7_figure 57 = .ok (.iaload, 1) := by decide +kernel
theorem dX7_figure_58 : decode cX7_figure 58 = .ok (.bipush 48, 2) := by decide +kernel
theorem dX7_figure_60 : decode cX7_figure 60 = .ok (.isub, 1) := by decide +kernel
theorem dX7_figure_61 : decode cX7_figure 61 = .ok (.ireturn, 1) := by decide +kernel
set_option maxRecDepth 20000 in
theorem ggX7_readPerson_X7_figure : GoodIn wsX7_readPerson wsX7_figure := goodIn_r _ [7, 8, 9, 10, 11, 12, 6, 13, 14, 15, 16, 17, 18, 19, 20, 21, 22, 23, 24, 25, 26, 27, 28, 29, 30, 31, 32, 33, 34, 35, 36, 37, 38, 39, 40, 41, 42, 43, 44] (by decide +kernel) (by decide +kernel)
set_option maxRecDepth 20000 in
theorem gX7_readPerson_X7_figure : GoodIn wsX7_readPerson (wsV RX7 72 RX7 yX7_figure wsX7_figure) := goodIn_app (goodIn_of _ (by decide +kernel)) ggX7_readPerson_X7_figure
theorem dX7_readPerson_0 : decode cX7_readPerson 0 = .ok (.iconst 0, 1) := by decide +kernel
theorem dX7_readPerson_1 : decode cX7_readPerson 1 = .ok (.istore_n 1, 1) := by decide +kernel
theorem dX7_readPerson_2 : decode cX7_readPerson 2 = .ok (.iload_n 1, 1) := by decide +kernel
theorem dX7_readPerson_3 : decode cX7_readPerson 3 = .ok (.iconst 3, 1) := by decide +kernel
theorem dX7_readPerson_4 : decode cX7_readPerson 4 = .ok (.if_icmp .ge 54, 3) := by decide +kernel
theorem dX7_readPerson_7 : decode cX7_readPerson 7 = .ok (.iload_n 1, 1) := by decide +kernel
theorem dX7_readPerson_8 : decode cX7_readPerson 8 = .ok (.iconst 2, 1) := by decide +kernel
theorem dX7_readPerson_9 : decode cX7_readPerson 9 = .ok (.if_icmp .ge 13, 3) := by decide +kernel
theorem dX7_readPerson_12 : decode cX7_readPerson 12 = .ok (.aload_n 0, 1) := by decide +kernel
theorem dX7_readPerson_13 : decode cX7_readPerson 13 = .ok (.iconst 1, 1) := by decide +kernel
theorem dX7_readPerson_14 : decode cX7_readPerson 14 = .ok (.bipush 7, 2) := by decide +kernel
theorem dX7_readPerson_16 : decode cX7_readPerson 16 = .ok (.invokevirtual 72, 3) := by decide +kernel
theorem dX7_readPerson_19 : decode cX7_readPerson 19 = .ok (.goto 10, 3) := by decide +kernel
theorem dX7_readPerson_22 : decode cX7_readPerson 22 = .ok (.aload_n 0, 1) := by decide +kernel
theorem dX7_readPerson_23 : decode cX7_readPerson 23 = .ok (.iconst 0, 1) := by decide +kernel
theorem dX7_readPerson_24 : decode cX7_readPerson 24 = .ok (.bipush 9, 2) := by decide +kernel
theorem dX7_readPerson_26 : decode cX7_readPerson 26 = .ok (.invokevirtual 72, 3) := by decide +kernel
theorem dX7_readPerson_29 : decode cX7_readPerson 29 = .ok (.istore_n 2, 1) := by decide +kernel
theorem dX7_readPerson_30 : decode cX7_readPerson 30 = .ok (.iload_n 2, 1) := by decide +kernel
theorem dX7_readPerson_31 : decode cX7_readPerson 31 = .ok (.bipush (-9), 2) := by decide +kernel
theorem dX7_readPerson_33 : decode cX7_readPerson 33 = .ok (.if_icmp .ne 5, 3) := by decide +kernel
theorem dX7_readPerson_36 : decode cX7_readPerson 36 = .ok (.iconst 0, 1) := by decide +kernel
theorem dX7_readPerson_37 : decode cX7_readPerson 37 = .ok (.ireturn, 1) := by decide +kernel
theorem dX7_readPerson_38 : decode cX7_readPerson 38 = .ok (.aload_n 0, 1) := by decide +kernel
theorem dX7_readPerson_39 : decode cX7_readPerson 39 = .ok (.getfield 19, 3) := by decide +kernel
theorem dX7_readPerson_42 : decode cX7_readPerson 42 = .ok (.iconst 3, 1) := by decide +kernel
theorem dX7_readPerson_43 : decode cX7_readPerson 43 = .ok (.aload_n 0, 1) := by decide +kernel
theorem dX7_readPerson_44 : decode cX7_readPerson 44 = .ok (.getfield 76, 3) := by decide +kernel
theorem dX7_readPerson_47 : decode cX7_readPerson 47 = .ok (.imul, 1) := by decide +kernel
theorem dX7_readPerson_48 : decode cX7_readPerson 48 = .ok (.iload_n 1, 1) := by decide +kernel
theorem dX7_readPerson_49 : decode cX7_readPerson 49 = .ok (.iadd, 1) := by decide +kernel
theorem dX7_readPerson_50 : decode cX7_readPerson 50 = .ok (.iload_n 2, 1) := by decide +kernel
theorem dX7_readPerson_51 : decode cX7_readPerson 51 = .ok (.iastore, 1) := by decide +kernel
theorem dX7_readPerson_52 : decode cX7_readPerson 52 = .ok (.iinc 1 1, 3) := by decide +kernel
theorem dX7_readPerson_55 : decode cX7_readPerson 55 = .ok (.goto (-53), 3) := by decide +kernel
theorem dX7_readPerson_58 : decode cX7_readPerson 58 = .ok (.aload_n 0, 1) := by decide +kernel
theorem dX7_readPerson_59 : decode cX7_readPerson 59 = .ok (.dup, 1) := by decide +kernel
theorem dX7_readPerson_60 : decode cX7_readPerson 60 = .ok (.getfield 76, 3) := by decide +kernel
theorem dX7_readPerson_63 : decode cX7_readPerson 63 = .ok (.iconst 1, 1) := by decide +kernel
theorem dX7_readPerson_64 : decode cX7_readPerson 64 = .ok (.iadd, 1) := by decide +kernel
theorem dX7_readPerson_65 : decode cX7_readPerson 65 = .ok (.putfield 76, 3) := by decide +kernel
theorem dX7_readPerson_68 : decode cX7_readPerson 68 = .ok (.iconst 1, 1) := by decide +kernel
theorem dX7_readPerson_69 : decode cX7_readPerson 69 = .ok (.ireturn, 1) := by decide +kernel
set_option maxRecDepth 20000 in
theorem ggX7_readGlove_X7_figure : GoodIn wsX7_readGlove wsX7_figure := goodIn_r _ [7, 8, 9, 10, 11, 12, 6, 13, 14, 15, 16, 17, 18, 19, 20, 21, 22, 23, 24, 25, 26, 27, 28, 29, 30, 31, 32, 33, 34, 35, 36, 37, 38, 39, 40, 41, 42, 43, 44] (by decide +kernel) (by decide +kernel)
set_option maxRecDepth 20000 in
theorem gX7_readGlove_X7_figure : GoodIn wsX7_readGlove (wsV RX7 72 RX7 yX7_figure wsX7_figure) := goodIn_app (goodIn_of _ (by decide +kernel)) ggX7_readGlove_X7_figure
theorem dX7_readGlove_0 : decode cX7_readGlove 0 = .ok (.iconst 0, 1) := by decide +kernel
theorem dX7_readGlove_1 : decode cX7_readGlove 1 = .ok (.istore_n 1, 1) := by decide +kernel
theorem dX7_readGlove_2 : decode cX7_readGlove 2 = .ok (.iload_n 1, 1) := by decide +kernel
theorem dX7_readGlove_3 : decode cX7_readGlove 3 = .ok (.iconst 3, 1) := by decide +kernel
theorem dX7_readGlove_4 : decode cX7_readGlove 4 = .ok (.if_icmp .ge 61, 3) := by decide +kernel
theorem dX7_readGlove_7 : decode cX7_readGlove 7 = .ok (.iload_n 1, 1) := by decide +kernel
theorem dX7_readGlove_8 : decode cX7_readGlove 8 = .ok (.ifCond .ne 12, 3) := by decide +kernel
theorem dX7_readGlove_11 : decode cX7_readGlove 11 = .ok (.aload_n 0, 1) := by decide +kernel
theorem dX7_readGlove_12 : decode cX7_readGlove 12 = .ok (.iconst 1, 1) := by decide +kernel
theorem dX7_readGlove_13 : decode cX7_readGlove 13 = .ok (.iconst 3, 1) := by decide +kernel
theorem dX7_readGlove_14 : decode cX7_readGlove 14 = .ok (.invokevirtual 72, 3) := by decide +kernel
theorem dX7_readGlove_17 : decode cX7_readGlove 17 = .ok (.goto 19, 3) := by decide +kernel
theorem dX7_readGlove_20 : decode cX7_readGlove 20 = .ok (.aload_n 0, 1) := by decide +kernel
theorem dX7_readGlove_21 : decode cX7_readGlove 21 = .ok (.iconst 0, 1) := by decide +kernel
theorem dX7_readGlove_22 : decode cX7_readGlove 22 = .ok (.iload_n 1, 1) := by decide +kernel
theorem dX7_readGlove_23 : decode cX7_readGlove 23 = .ok (.iconst 1, 1) := by decide +kernel
theorem dX7_readGlove_24 : decode cX7_readGlove 24 = .ok (.if_icmp .ne 7, 3) := by decide +kernel
theorem dX7_readGlove_27 : decode cX7_readGlove 27 = .ok (.iconst 3, 1) := by decide +kernel
theorem dX7_readGlove_28 : decode cX7_readGlove 28 = .ok (.goto 5, 3) := by decide +kernel
theorem dX7_readGlove_31 : decode cX7_readGlove 31 = .ok (.bipush 7, 2) := by decide +kernel
theorem dX7_readGlove_33 : decode cX7_readGlove 33 = .ok (.invokevirtual 72, 3) := by decide +kernel
theorem dX7_readGlove_36 : decode cX7_readGlove 36 = .ok (.istore_n 2, 1) := by decide +kernel
theorem dX7_readGlove_37 : decode cX7_readGlove 37 = .ok (.iload_n 2, 1) := by decide +kernel
theorem dX7_readGlove_38 : decode cX7_readGlove 38 = .ok (.bipush (-9), 2) := by decide +kernel
theorem dX7_readGlove_40 : decode cX7_readGlove 40 = .ok (.if_icmp .ne 5, 3) := by decide +kernel
theorem dX7_readGlove_43 : decode cX7_readGlove 43 = .ok (.iconst 0, 1) := by decide +kernel
theorem dX7_readGlove_44 : decode cX7_readGlove 44 = .ok (.ireturn, 1) := by decide +kernel
theorem dX7_readGlove_45 : decode cX7_readGlove 45 = .ok (.aload_n 0, 1) := by decide +kernel
theorem dX7_readGlove_46 : decode cX7_readGlove 46 = .ok (.getfield 22, 3) := by decide +kernel
theorem dX7_readGlove_49 : decode cX7_readGlove 49 = .ok (.iconst 3, 1) := by decide +kernel
theorem dX7_readGlove_50 : decode cX7_readGlove 50 = .ok (.aload_n 0, 1) := by decide +kernel
theorem dX7_readGlove_51 : decode cX7_readGlove 51 = .ok (.getfield 79, 3) := by decide +kernel
theorem dX7_readGlove_54 : decode cX7_readGlove 54 = .ok (.imul, 1) := by decide +kernel
theorem dX7_readGlove_55 : decode cX7_readGlove 55 = .ok (.iload_n 1, 1) := by decide +kernel
theorem dX7_readGlove_56 : decode cX7_readGlove 56 = .ok (.iadd, 1) := by decide +kernel
theorem dX7_readGlove_57 : decode cX7_readGlove 57 = .ok (.iload_n 2, 1) := by decide +kernel
theorem dX7_readGlove_58 : decode cX7_readGlove 58 = .ok (.iastore, 1) := by decide +kernel
theorem dX7_readGlove_59 : decode cX7_readGlove 59 = .ok (.iinc 1 1, 3) := by decide +kernel
theorem dX7_readGlove_62 : decode cX7_readGlove 62 = .ok (.goto (-60), 3) := by decide +kernel
theorem dX7_readGlove_65 : decode cX7_readGlove 65 = .ok (.aload_n 0, 1) := by decide +kernel
theorem dX7_readGlove_66 : decode cX7_readGlove 66 = .ok (.dup, 1) := by decide +kernel
theorem dX7_readGlove_67 : decode cX7_readGlove 67 = .ok (.getfield 79, 3) := by decide +kernel
theorem dX7_readGlove_70 : decode cX7_readGlove 70 = .ok (.iconst 1, 1) := by decide +kernel
theorem dX7_readGlove_71 : decode cX7_readGlove 71 = .ok (.iadd, 1) := by decide +kernel
theorem dX7_readGlove_72 : decode cX7_readGlove 72 = .ok (.putfield 79, 3) := by decide +kernel
theorem dX7_readGlove_75 : decode cX7_readGlove 75 = .ok (.iconst 1, 1) := by decide +kernel
theorem dX7_readGlove_76 : decode cX7_readGlove 76 = .ok (.ireturn, 1) := by decide +kernel
set_option maxRecDepth 20000 in
theorem ggX7_readPart_X7_readPerson : GoodIn wsX7_readPart wsX7_readPerson := goodIn_r _ [9, 10, 3, 11, 12, 13, 8, 14, 2, 15, 1, 16, 17, 18, 24, 25, 26, 27, 28, 29, 30, 31, 32, 33, 34, 35, 36, 37, 38, 39, 40, 41, 42, 43, 44, 45, 46, 47, 48, 49, 50, 51, 52, 53, 54] (by decide +kernel) (by decide +kernel)
set_option maxRecDepth 20000 in
theorem gX7_readPart_X7_readPerson : GoodIn wsX7_readPart (wsV RX7 82 RX7 yX7_readPerson wsX7_readPerson) := goodIn_app (goodIn_of _ (by decide +kernel)) ggX7_readPart_X7_readPerson
set_option maxRecDepth 20000 in
theorem ggX7_readPart_X7_readGlove : GoodIn wsX7_readPart wsX7_readGlove := goodIn_r _ [22, 23, 4, 11, 12, 13, 8, 14, 2, 15, 1, 16, 17, 18, 24, 25, 26, 27, 28, 29, 30, 31, 32, 33, 34, 35, 36, 37, 38, 39, 40, 41, 42, 43, 44, 45, 46, 47, 48, 49, 50, 51, 52, 53, 54] (by decide +kernel) (by decide +kernel)
set_option maxRecDepth 20000 in
theorem gX7_readPart_X7_readGlove : GoodIn wsX7_readPart (wsV RX7 85 RX7 yX7_readGlove wsX7_readGlove) := goodIn_app (goodIn_of _ (by decide +kernel)) ggX7_readPart_X7_readGlove
theorem dX7_readPart_0 : decode cX7_readPart 0 = .ok (.aload_n 0, 1) := by decide +kernel
theorem dX7_readPart_1 : decode cX7_readPart 1 = .ok (.getfield 7, 3) := by decide +kernel
theorem dX7_readPart_4 : decode cX7_readPart 4 = .ok (.aload_n 0, 1) := by decide +kernel
theorem dX7_readPart_5 : decode cX7_readPart 5 = .ok (.getfield 69, 3) := by decide +kernel
theorem dX7_readPart_8 : decode cX7_readPart 8 = .ok (.iaload, 1) := by decide +kernel
theorem dX7_readPart_9 : decode cX7_readPart 9 = .ok (.istore_n 1, 1) := by decide +kernel
theorem dX7_readPart_10 : decode cX7_readPart 10 = .ok (.aload_n 0, 1) := by decide +kernel
theorem dX7_readPart_11 : decode cX7_readPart 11 = .ok (.dup, 1) := by decide +kernel
theorem dX7_readPart_12 : decode cX7_readPart 12 = .ok (.getfield 69, 3) := by decide +kernel
theorem dX7_readPart_15 : decode cX7_readPart 15 = .ok (.iconst 1, 1) := by decide +kernel
theorem dX7_readPart_16 : decode cX7_readPart 16 = .ok (.iadd, 1) := by decide +kernel
theorem dX7_readPart_17 : decode cX7_readPart 17 = .ok (.putfield 69, 3) := by decide +kernel
theorem dX7_readPart_20 : decode cX7_readPart 20 = .ok (.iload_n 1, 1) := by decide +kernel
theorem dX7_readPart_21 : decode cX7_readPart 21 = .ok (.bipush 80, 2) := by decide +kernel
theorem dX7_readPart_23 : decode cX7_readPart 23 = .ok (.if_icmp .ne 16, 3) := by decide +kernel
theorem dX7_readPart_26 : decode cX7_readPart 26 = .ok (.aload_n 0, 1) := by decide +kernel
theorem dX7_readPart_27 : decode cX7_readPart 27 = .ok (.getfield 76, 3) := by decide +kernel
theorem dX7_readPart_30 : decode cX7_readPart 30 = .ok (.iconst 5, 1) := by decide +kernel
theorem dX7_readPart_31 : decode cX7_readPart 31 = .ok (.if_icmp .ge 8, 3) := by decide +kernel
theorem dX7_readPart_34 : decode cX7_readPart 34 = .ok (.aload_n 0, 1) := by decide +kernel
theorem dX7_readPart_35 : decode cX7_readPart 35 = .ok (.invokevirtual 82, 3) := by decide +kernel
theorem dX7_readPart_38 : decode cX7_readPart 38 = .ok (.ireturn, 1) := by decide +kernel
theorem dX7_readPart_39 : decode cX7_readPart 39 = .ok (.iload_n 1, 1) := by decide +kernel
theorem dX7_readPart_40 : decode cX7_readPart 40 = .ok (.bipush 76, 2) := by decide +kernel
theorem dX7_readPart_42 : decode cX7_readPart 42 = .ok (.if_icmp .ne 16, 3) := by decide +kernel
theorem dX7_readPart_45 : decode cX7_readPart 45 = .ok (.aload_n 0, 1) := by decide +kernel
theorem dX7_readPart_46 : decode cX7_readPart 46 = .ok (.getfield 79, 3) := by decide +kernel
theorem dX7_readPart_49 : decode cX7_readPart 49 = .ok (.iconst 4, 1) := by decide +kernel
theorem dX7_readPart_50 : decode cX7_readPart 50 = .ok (.if_icmp .ge 8, 3) := by decide +kernel
theorem dX7_readPart_53 : decode cX7_readPart 53 = .ok (.aload_n 0, 1) := by decide +kernel
theorem dX7_readPart_54 : decode cX7_readPart 54 = .ok (.invokevirtual 85, 3) := by decide +kernel
theorem dX7_readPart_57 : decode cX7_readPart 57 = .ok (.ireturn, 1) := by decide +kernel
theorem dX7_readPart_58 : decode cX7_readPart 58 = .ok (.aload_n 0, 1) := by decide +kernel
theorem dX7_readPart_59 : decode cX7_readPart 59 = .ok (.dup, 1) := by decide +kernel
theorem dX7_readPart_60 : decode cX7_readPart 60 = .ok (.getfield 69, 3) := by decide +kernel
theorem dX7_readPart_63 : decode cX7_readPart 63 = .ok (.iconst 1, 1) := by decide +kernel
theorem dX7_readPart_64 : decode cX7_readPart 64 = .ok (.isub, 1) := by decide +kernel
theorem dX7_readPart_65 : decode cX7_readPart 65 = .ok (.putfield 69, 3) := by decide +kernel
theorem dX7_readPart_68 : decode cX7_readPart 68 = .ok (.iconst 0, 1) := by decide +kernel
theorem dX7_readPart_69 : decode cX7_readPart 69 = .ok (.ireturn, 1) := by decide +kernel
set_option maxRecDepth 20000 in
theorem ggX7_readDesk_X7_readPart : GoodIn wsX7_readDesk wsX7_readPart := goodIn_r _ [10, 5, 1, 2, 3, 11, 12, 13, 9, 14, 15, 16, 17, 18, 19, 4, 20, 21, 22, 23, 24, 25, 26, 27, 28, 29, 30, 31, 32, 33, 34, 35, 36, 37, 38, 39, 40, 41, 42, 43, 44, 45, 46, 47, 48, 49, 50, 51, 52, 53, 54, 55, 56, 57, 58] (by decide +kernel) (by decide +kernel)
set_option maxRecDepth 20000 in
theorem gX7_readDesk_X7_readPart : GoodIn wsX7_readDesk (wsV RX7 87 RX7 yX7_readPart wsX7_readPart) := goodIn_app (goodIn_of _ (by decide +kernel)) ggX7_readDesk_X7_readPart
theorem dX7_readDesk_0 : decode cX7_readDesk 0 = .ok (.aload_n 0, 1) := by decide +kernel
theorem dX7_readDesk_1 : decode cX7_readDesk 1 = .ok (.iconst 0, 1) := by decide +kernel
theorem dX7_readDesk_2 : decode cX7_readDesk 2 = .ok (.putfield 69, 3) := by decide +kernel
theorem dX7_readDesk_5 : decode cX7_readDesk 5 = .ok (.aload_n 0, 1) := by decide +kernel
theorem dX7_readDesk_6 : decode cX7_readDesk 6 = .ok (.iconst 0, 1) := by decide +kernel
theorem dX7_readDesk_7 : decode cX7_readDesk 7 = .ok (.putfield 76, 3) := by decide +kernel
theorem dX7_readDesk_10 : decode cX7_readDesk 10 = .ok (.aload_n 0, 1) := by decide +kernel
theorem dX7_readDesk_11 : decode cX7_readDesk 11 = .ok (.iconst 0, 1) := by decide +kernel
theorem dX7_readDesk_12 : decode cX7_readDesk 12 = .ok (.putfield 79, 3) := by decide +kernel
theorem dX7_readDesk_15 : decode cX7_readDesk 15 = .ok (.aload_n 0, 1) := by decide +kernel
theorem dX7_readDesk_16 : decode cX7_readDesk 16 = .ok (.getfield 66, 3) := by decide +kernel
theorem dX7_readDesk_19 : decode cX7_readDesk 19 = .ok (.ifCond .eq 14, 3) := by decide +kernel
theorem dX7_readDesk_22 : decode cX7_readDesk 22 = .ok (.aload_n 0, 1) := by decide +kernel
theorem dX7_readDesk_23 : decode cX7_readDesk 23 = .ok (.getfield 7, 3) := by decide +kernel
theorem dX7_readDesk_26 : decode cX7_readDesk 26 = .ok (.iconst 0, 1) := by decide +kernel
theorem dX7_readDesk_27 : decode cX7_readDesk 27 = .ok (.iaload, 1) := by decide +kernel
theorem dX7_readDesk_28 : decode cX7_readDesk 28 = .ok (.bipush 71, 2) := by decide +kernel
theorem dX7_readDesk_30 : decode cX7_readDesk 30 = .ok (.if_icmp .eq 5, 3) := by decide +kernel
theorem dX7_readDesk_33 : decode cX7_readDesk 33 = .ok (.iconst 0, 1) := by decide +kernel
theorem dX7_readDesk_34 : decode cX7_readDesk 34 = .ok (.ireturn, 1) := by decide +kernel
theorem dX7_readDesk_35 : decode cX7_readDesk 35 = .ok (.aload_n 0, 1) := by decide +kernel
theorem dX7_readDesk_36 : decode cX7_readDesk 36 = .ok (.iconst 1, 1) := by decide +kernel
theorem dX7_readDesk_37 : decode cX7_readDesk 37 = .ok (.putfield 69, 3) := by decide +kernel
theorem dX7_readDesk_40 : decode cX7_readDesk 40 = .ok (.aload_n 0, 1) := by decide +kernel
theorem dX7_readDesk_41 : decode cX7_readDesk 41 = .ok (.getfield 69, 3) := by decide +kernel
theorem dX7_readDesk_44 : decode cX7_readDesk 44 = .ok (.aload_n 0, 1) := by decide +kernel
theorem dX7_readDesk_45 : decode cX7_readDesk 45 = .ok (.getfield 66, 3) := by decide +kernel
theorem dX7_readDesk_48 : decode cX7_readDesk 48 = .ok (.if_icmp .ge 15, 3) := by decide +kernel
theorem dX7_readDesk_51 : decode cX7_readDesk 51 = .ok (.aload_n 0, 1) := by decide +kernel
theorem dX7_readDesk_52 : decode cX7_readDesk 52 = .ok (.invokevirtual 87, 3) := by decide +kernel
theorem dX7_readDesk_55 : decode cX7_readDesk 55 = .ok (.ifCond .ne (-15), 3) := by decide +kernel
theorem dX7_readDesk_58 : decode cX7_readDesk 58 = .ok (.aload_n 0, 1) := by decide +kernel
theorem dX7_readDesk_59 : decode cX7_readDesk 59 = .ok (.getfield 69, 3) := by decide +kernel
theorem dX7_readDesk_62 : decode cX7_readDesk 62 = .ok (.ireturn, 1) := by decide +kernel
theorem dX7_readDesk_63 : decode cX7_readDesk 63 = .ok (.bipush (-9), 2) := by decide +kernel
theorem dX7_readDesk_65 : decode cX7_readDesk 65 = .ok (.ireturn, 1) := by decide +kernel
set_option maxRecDepth 20000 in
theorem ggX7_fault_X7_readDesk : GoodIn wsX7_fault wsX7_readDesk := goodIn_r _ [6, 7, 8, 9, 10, 11, 12, 13, 14, 5, 15, 16, 17, 18, 19, 20, 21, 22, 23, 24, 25, 26, 27, 28, 29, 30, 31, 32, 33, 34, 35, 36, 37, 38, 39, 40, 41, 42, 43, 44, 45, 46, 47, 48, 49, 50, 51, 52, 53, 54, 55, 56, 57, 58, 59, 60, 61, 62, 63] (by decide +kernel) (by decide +kernel)
set_option maxRecDepth 20000 in
theorem gX7_fault_X7_readDesk : GoodIn wsX7_fault (wsV RX7 90 RX7 yX7_readDesk wsX7_readDesk) := goodIn_app (goodIn_of _ (by decide +kernel)) ggX7_fault_X7_readDesk
theorem dX7_fault_0 : decode cX7_fault 0 = .ok (.aload_n 0, 1) := by decide +kernel
theorem dX7_fault_1 : decode cX7_fault 1 = .ok (.iconst 0, 1) := by decide +kernel
theorem dX7_fault_2 : decode cX7_fault 2 = .ok (.putfield 50, 3) := by decide +kernel
theorem dX7_fault_5 : decode cX7_fault 5 = .ok (.aload_n 0, 1) := by decide +kernel
theorem dX7_fault_6 : decode cX7_fault 6 = .ok (.invokevirtual 90, 3) := by decide +kernel
theorem dX7_fault_9 : decode cX7_fault 9 = .ok (.ireturn, 1) := by decide +kernel
set_option maxRecDepth 20000 in
theorem ggX7_desk_X7_readDesk : GoodIn wsX7_desk wsX7_readDesk := goodIn_r _ [17, 18, 2, 4, 19, 20, 21, 22, 23, 16, 24, 25, 26, 27, 28, 7, 29, 30, 31, 32, 33, 34, 35, 36, 37, 38, 39, 10, 40, 41, 42, 43, 44, 45, 46, 47, 48, 49, 50, 51, 52, 53, 54, 55, 56, 57, 58, 59, 60, 61, 62, 63, 64, 65, 66, 67, 68, 69, 70] (by decide +kernel) (by decide +kernel)
set_option maxRecDepth 20000 in
theorem gX7_desk_X7_readDesk : GoodIn wsX7_desk (wsV RX7 90 RX7 yX7_readDesk wsX7_readDesk) := goodIn_app (goodIn_of _ (by decide +kernel)) ggX7_desk_X7_readDesk
theorem dX7_desk_0 : decode cX7_desk 0 = .ok (.aload_n 0, 1) := by decide +kernel
theorem dX7_desk_1 : decode cX7_desk 1 = .ok (.iconst 0, 1) := by decide +kernel
theorem dX7_desk_2 : decode cX7_desk 2 = .ok (.putfield 50, 3) := by decide +kernel
theorem dX7_desk_5 : decode cX7_desk 5 = .ok (.aload_n 0, 1) := by decide +kernel
theorem dX7_desk_6 : decode cX7_desk 6 = .ok (.invokevirtual 90, 3) := by decide +kernel
theorem dX7_desk_9 : decode cX7_desk 9 = .ok (.bipush (-9), 2) := by decide +kernel
theorem dX7_desk_11 : decode cX7_desk 11 = .ok (.if_icmp .eq 6, 3) := by decide +kernel
theorem dX7_desk_14 : decode cX7_desk 14 = .ok (.bipush (-3), 2) := by decide +kernel
theorem dX7_desk_16 : decode cX7_desk 16 = .ok (.ireturn, 1) := by decide +kernel
theorem dX7_desk_17 : decode cX7_desk 17 = .ok (.aload_n 0, 1) := by decide +kernel
theorem dX7_desk_18 : decode cX7_desk 18 = .ok (.aload_n 0, 1) := by decide +kernel
theorem dX7_desk_19 : decode cX7_desk 19 = .ok (.getfield 76, 3) := by decide +kernel
theorem dX7_desk_22 : decode cX7_desk 22 = .ok (.putfield 54, 3) := by decide +kernel
theorem dX7_desk_25 : decode cX7_desk 25 = .ok (.aload_n 0, 1) := by decide +kernel
theorem dX7_desk_26 : decode cX7_desk 26 = .ok (.aload_n 0, 1) := by decide +kernel
theorem dX7_desk_27 : decode cX7_desk 27 = .ok (.getfield 79, 3) := by decide +kernel
theorem dX7_desk_30 : decode cX7_desk 30 = .ok (.putfield 61, 3) := by decide +kernel
theorem dX7_desk_33 : decode cX7_desk 33 = .ok (.iconst 0, 1) := by decide +kernel
theorem dX7_desk_34 : decode cX7_desk 34 = .ok (.istore_n 1, 1) := by decide +kernel
theorem dX7_desk_35 : decode cX7_desk 35 = .ok (.iload_n 1, 1) := by decide +kernel
theorem dX7_desk_36 : decode cX7_desk 36 = .ok (.iconst 3, 1) := by decide +kernel
theorem dX7_desk_37 : decode cX7_desk 37 = .ok (.aload_n 0, 1) := by decide +kernel
theorem dX7_desk_38 : decode cX7_desk 38 = .ok (.getfield 54, 3) := by decide +kernel
theorem dX7_desk_41 : decode cX7_desk 41 = .ok (.imul, 1) := by decide +kernel
theorem dX7_desk_42 : decode cX7_desk 42 = .ok (.if_icmp .ge 21, 3) := by decide +kernel
theorem dX7_desk_45 : decode cX7_desk 45 = .ok (.aload_n 0, 1) := by decide +kernel
theorem dX7_desk_46 : decode cX7_desk 46 = .ok (.getfield 13, 3) := by decide +kernel
theorem dX7_desk_49 : decode cX7_desk 49 = .ok (.iload_n 1, 1) := by decide +kernel
theorem dX7_desk_50 : decode cX7_desk 50 = .ok (.aload_n 0, 1) := by decide +kernel
theorem dX7_desk_51 : decode cX7_desk 51 = .ok (.getfield 19, 3) := by decide +kernel
theorem dX7_desk_54 : decode cX7_desk 54 = .ok (.iload_n 1, 1) := by decide +kernel
theorem dX7_desk_55 : decode cX7_desk 55 = .ok (.iaload, 1) := by decide +kernel
theorem dX7_desk_56 : decode cX7_desk 56 = .ok (.iastore, 1) := by decide +kernel
theorem dX7_desk_57 : decode cX7_desk 57 = .ok (.iinc 1 1, 3) := by decide +kernel
theorem dX7_desk_60 : decode cX7_desk 60 = .ok (.goto (-25), 3) := by decide +kernel
theorem dX7_desk_63 : decode cX7_desk 63 = .ok (.iconst 0, 1) := by decide +kernel
theorem dX7_desk_64 : decode cX7_desk 64 = .ok (.istore_n 1, 1) := by decide +kernel
theorem dX7_desk_65 : decode cX7_desk 65 = .ok (.iload_n 1, 1) := by decide +kernel
theorem dX7_desk_66 : decode cX7_desk 66 = .ok (.bipush 21, 2) := by decide +kernel
theorem dX7_desk_68 : decode cX7_desk 68 = .ok (.if_icmp .ge 16, 3) := by decide +kernel
theorem dX7_desk_71 : decode cX7_desk 71 = .ok (.aload_n 0, 1) := by decide +kernel
theorem dX7_desk_72 : decode cX7_desk 72 = .ok (.getfield 25, 3) := by decide +kernel
theorem dX7_desk_75 : decode cX7_desk 75 = .ok (.iload_n 1, 1) := by decide +kernel
theorem dX7_desk_76 : decode cX7_desk 76 = .ok (.iconst 0, 1) := by decide +kernel
theorem dX7_desk_77 : decode cX7_desk 77 = .ok (.iastore, 1) := by decide +kernel
theorem dX7_desk_78 : decode cX7_desk 78 = .ok (.iinc 1 1, 3) := by decide +kernel
theorem dX7_desk_81 : decode cX7_desk 81 = .ok (.goto (-16), 3) := by decide +kernel
theorem dX7_desk_84 : decode cX7_desk 84 = .ok (.iconst 0, 1) := by decide +kernel
theorem dX7_desk_85 : decode cX7_desk 85 = .ok (.istore_n 1, 1) := by decide +kernel
theorem dX7_desk_86 : decode cX7_desk 86 = .ok (.iload_n 1, 1) := by decide +kernel
theorem dX7_desk_87 : decode cX7_desk 87 = .ok (.aload_n 0, 1) := by decide +kernel
theorem dX7_desk_88 : decode cX7_desk 88 = .ok (.getfield 61, 3) := by decide +kernel
theorem dX7_desk_91 : decode cX7_desk 91 = .ok (.if_icmp .ge 100, 3) := by decide +kernel
theorem dX7_desk_94 : decode cX7_desk 94 = .ok (.iconst 0, 1) := by decide +kernel
theorem dX7_desk_95 : decode cX7_desk 95 = .ok (.istore_n 2, 1) := by decide +kernel
theorem dX7_desk_96 : decode cX7_desk 96 = .ok (.iload_n 2, 1) := by decide +kernel
theorem dX7_desk_97 : decode cX7_desk 97 = .ok (.iconst 3, 1) := by decide +kernel
theorem dX7_desk_98 : decode cX7_desk 98 = .ok (.if_icmp .ge 29, 3) := by decide +kernel
theorem dX7_desk_101 : decode cX7_desk 101 = .ok (.aload_n 0, 1) := by decide +kernel
theorem dX7_desk_102 : decode cX7_desk 102 = .ok (.getfield 16, 3) := by decide +kernel
theorem dX7_desk_105 : decode cX7_desk 105 = .ok (.iconst 3, 1) := by decide +kernel
theorem dX7_desk_106 : decode cX7_desk 106 = .ok (.iload_n 1, 1) := by decide +kernel
theorem dX7_desk_107 : decode cX7_desk 107 = .ok (.imul, 1) := by decide +kernel
theorem dX7_desk_108 : decode cX7_desk 108 = .ok (.iload_n 2, 1) := by decide +kernel
theorem dX7_desk_109 : decode cX7_desk 109 = .ok (.iadd, 1) := by decide +kernel
theorem dX7_desk_110 : decode cX7_desk 110 = .ok (.aload_n 0, 1) := by decide +kernel
theorem dX7_desk_111 : decode cX7_desk 111 = .ok (.getfield 22, 3) := by decide +kernel
theorem dX7_desk_114 : decode cX7_desk 114 = .ok (.iconst 3, 1) := by decide +kernel
theorem dX7_desk_115 : decode cX7_desk 115 = .ok (.iload_n 1, 1) := by decide +kernel
theorem dX7_desk_116 : decode cX7_desk 116 = .ok (.imul, 1) := by decide +kernel
theorem dX7_desk_117 : decode cX7_desk 117 = .ok (.iload_n 2, 1) := by decide +kernel
theorem dX7_desk_118 : decode cX7_desk 118 = .ok (.iadd, 1) := by decide +kernel
theorem dX7_desk_119 : decode cX7_desk 119 = .ok (.iaload, 1) := by decide +kernel
theorem dX7_desk_120 : decode cX7_desk 120 = .ok (.iastore, 1) := by decide +kernel
theorem dX7_desk_121 : decode cX7_desk 121 = .ok (.iinc 2 1, 3) := by decide +kernel
theorem dX7_desk_124 : decode cX7_desk 124 = .ok (.goto (-28), 3) := by decide +kernel
theorem dX7_desk_127 : decode cX7_desk 127 = .ok (.aload_n 0, 1) := by decide +kernel
theorem dX7_desk_128 : decode cX7_desk 128 = .ok (.getfield 25, 3) := by decide +kernel
theorem dX7_desk_131 : decode cX7_desk 131 = .ok (.iconst 5, 1) := by decide +kernel
theorem dX7_desk_132 : decode cX7_desk 132 = .ok (.iload_n 1, 1) := by decide +kernel
theorem dX7_desk_133 : decode cX7_desk 133 = .ok (.imul, 1) := by decide +kernel
theorem dX7_desk_134 : decode cX7_desk 134 = .ok (.aload_n 0, 1) := by decide +kernel
theorem dX7_desk_135 : decode cX7_desk 135 = .ok (.getfield 16, 3) := by decide +kernel
theorem dX7_desk_138 : decode cX7_desk 138 = .ok (.iconst 3, 1) := by decide +kernel
theorem dX7_desk_139 : decode cX7_desk 139 = .ok (.iload_n 1, 1) := by decide +kernel
theorem dX7_desk_140 : decode cX7_desk 140 = .ok (.imul, 1) := by decide +kernel
theorem dX7_desk_141 : decode cX7_desk 141 = .ok (.iconst 2, 1) := by decide +kernel
theorem dX7_desk_142 : decode cX7_desk 142 = .ok (.iadd, 1) := by decide +kernel
theorem dX7_desk_143 : decode cX7_desk 143 = .ok (.iaload, 1) := by decide +kernel
theorem dX7_desk_144 : decode cX7_desk 144 = .ok (.ifCond .ne 7, 3) := by decide +kernel
theorem dX7_desk_147 : decode cX7_desk 147 = .ok (.iconst 0, 1) := by decide +kernel
theorem dX7_desk_148 : decode cX7_desk 148 = .ok (.goto 4, 3) := by decide +kernel
theorem dX7_desk_151 : decode cX7_desk 151 = .ok (.iconst 1, 1) := by decide +kernel
theorem dX7_desk_152 : decode cX7_desk 152 = .ok (.iastore, 1) := by decide +kernel
theorem dX7_desk_153 : decode cX7_desk 153 = .ok (.aload_n 0, 1) := by decide +kernel
theorem dX7_desk_154 : decode cX7_desk 154 = .ok (.getfield 25, 3) := by decide +kernel
theorem dX7_desk_157 : decode cX7_desk 157 = .ok (.iconst 5, 1) := by decide +kernel
theorem dX7_desk_158 : decode cX7_desk 158 = .ok (.iload_n 1, 1) := by decide +kernel
theorem dX7_desk_159 : decode cX7_desk 159 = .ok (.imul, 1) := by decide +kernel
theorem dX7_desk_160 : decode cX7_desk 160 = .ok (.iconst 1, 1) := by decide +kernel
theorem dX7_desk_161 : decode cX7_desk 161 = .ok (.iadd, 1) := by decide +kernel
theorem dX7_desk_162 : decode cX7_desk 162 = .ok (.aload_n 0, 1) := by decide +kernel
theorem dX7_desk_163 : decode cX7_desk 163 = .ok (.getfield 16, 3) := by decide +kernel
theorem dX7_desk_166 : decode cX7_desk 166 = .ok (.iconst 3, 1) := by decide +kernel
theorem dX7_desk_167 : decode cX7_desk 167 = .ok (.iload_n 1, 1) := by decide +kernel
theorem dX7_desk_168 : decode cX7_desk 168 = .ok (.imul, 1) := by decide +kernel
theorem dX7_desk_169 : decode cX7_desk 169 = .ok (.iconst 2, 1) := by decide +kernel
theorem dX7_desk_170 : decode cX7_desk 170 = .ok (.iadd, 1) := by decide +kernel
theorem dX7_desk_171 : decode cX7_desk 171 = .ok (.iaload, 1) := by decide +kernel
theorem dX7_desk_172 : decode cX7_desk 172 = .ok (.iastore, 1) := by decide +kernel
theorem dX7_desk_173 : decode cX7_desk 173 = .ok (.aload_n 0, 1) := by decide +kernel
theorem dX7_desk_174 : decode cX7_desk 174 = .ok (.getfield 25, 3) := by decide +kernel
theorem dX7_desk_177 : decode cX7_desk 177 = .ok (.iconst 5, 1) := by decide +kernel
theorem dX7_desk_178 : decode cX7_desk 178 = .ok (.iload_n 1, 1) := by decide +kernel
theorem dX7_desk_179 : decode cX7_desk 179 = .ok (.imul, 1) := by decide +kernel
theorem dX7_desk_180 : decode cX7_desk 180 = .ok (.iconst 4, 1) := by decide +kernel
theorem dX7_desk_181 : decode cX7_desk 181 = .ok (.iadd, 1) := by decide +kernel
theorem dX7_desk_182 : decode cX7_desk 182 = .ok (.bipush (-9), 2) := by decide +kernel
theorem dX7_desk_184 : decode cX7_desk 184 = .ok (.iastore, 1) := by decide +kernel
theorem dX7_desk_185 : decode cX7_desk 185 = .ok (.iinc 1 1, 3) := by decide +kernel
theorem dX7_desk_188 : decode cX7_desk 188 = .ok (.goto (-102), 3) := by decide +kernel
theorem dX7_desk_191 : decode cX7_desk 191 = .ok (.aload_n 0, 1) := by decide +kernel
theorem dX7_desk_192 : decode cX7_desk 192 = .ok (.iconst 0, 1) := by decide +kernel
theorem dX7_desk_193 : decode cX7_desk 193 = .ok (.putfield 94, 3) := by decide +kernel
theorem dX7_desk_196 : decode cX7_desk 196 = .ok (.aload_n 0, 1) := by decide +kernel
theorem dX7_desk_197 : decode cX7_desk 197 = .ok (.getfield 37, 3) := by decide +kernel
theorem dX7_desk_200 : decode cX7_desk 200 = .ok (.iconst 0, 1) := by decide +kernel
theorem dX7_desk_201 : decode cX7_desk 201 = .ok (.iconst 0, 1) := by decide +kernel
theorem dX7_desk_202 : decode cX7_desk 202 = .ok (.bastore, 1) := by decide +kernel
theorem dX7_desk_203 : decode cX7_desk 203 = .ok (.aload_n 0, 1) := by decide +kernel
theorem dX7_desk_204 : decode cX7_desk 204 = .ok (.getfield 37, 3) := by decide +kernel
theorem dX7_desk_207 : decode cX7_desk 207 = .ok (.iconst 1, 1) := by decide +kernel
theorem dX7_desk_208 : decode cX7_desk 208 = .ok (.iconst 0, 1) := by decide +kernel
theorem dX7_desk_209 : decode cX7_desk 209 = .ok (.bastore, 1) := by decide +kernel
theorem dX7_desk_210 : decode cX7_desk 210 = .ok (.bipush 10, 2) := by decide +kernel
theorem dX7_desk_212 : decode cX7_desk 212 = .ok (.aload_n 0, 1) := by decide +kernel
theorem dX7_desk_213 : decode cX7_desk 213 = .ok (.getfield 54, 3) := by decide +kernel
theorem dX7_desk_216 : decode cX7_desk 216 = .ok (.imul, 1) := by decide +kernel
theorem dX7_desk_217 : decode cX7_desk 217 = .ok (.aload_n 0, 1) := by decide +kernel
theorem dX7_desk_218 : decode cX7_desk 218 = .ok (.getfield 61, 3) := by decide +kernel
theorem dX7_desk_221 : decode cX7_desk 221 = .ok (.iadd, 1) := by decide +kernel
theorem dX7_desk_222 : decode cX7_desk 222 = .ok (.ireturn, 1) := by decide +kernel
theorem dX7_isWorn_0 : decode cX7_isWorn 0 = .ok (.aload_n 1, 1) := by decide +kernel
theorem dX7_isWorn_1 : decode cX7_isWorn 1 = .ok (.iconst 5, 1) := by decide +kernel
theorem dX7_isWorn_2 : decode cX7_isWorn 2 = .ok (.iload_n 2, 1) := by decide +kernel
theorem dX7_isWorn_3 : decode cX7_isWorn 3 = .ok (.imul, 1) := by decide +kernel
theorem dX7_isWorn_4 : decode cX7_isWorn 4 = .ok (.iconst 4, 1) := by decide +kernel
theorem dX7_isWorn_5 : decode cX7_isWorn 5 = .ok (.iadd, 1) := by decide +kernel
theorem dX7_isWorn_6 : decode cX7_isWorn 6 = .ok (.iaload, 1) := by decide +kernel
theorem dX7_isWorn_7 : decode cX7_isWorn 7 = .ok (.bipush (-9), 2) := by decide +kernel
theorem dX7_isWorn_9 : decode cX7_isWorn 9 = .ok (.if_icmp .eq 7, 3) := by decide +kernel
theorem dX7_isWorn_12 : decode cX7_isWorn 12 = .ok (.iconst 1, 1) := by decide +kernel
theorem dX7_isWorn_13 : decode cX7_isWorn 13 = .ok (.goto 4, 3) := by decide +kernel
theorem dX7_isWorn_16 : decode cX7_isWorn 16 = .ok (.iconst 0, 1) := by decide +kernel
theorem dX7_isWorn_17 : decode cX7_isWorn 17 = .ok (.ireturn, 1) := by decide +kernel
theorem dX7_wears_0 : decode cX7_wears 0 = .ok (.bipush (-9), 2) := by decide +kernel
theorem dX7_wears_2 : decode cX7_wears 2 = .ok (.istore_n 3, 1) := by decide +kernel
theorem dX7_wears_3 : decode cX7_wears 3 = .ok (.iconst 0, 1) := by decide +kernel
theorem dX7_wears_4 : decode cX7_wears 4 = .ok (.istore 4, 2) := by decide +kernel
theorem dX7_wears_6 : decode cX7_wears 6 = .ok (.iload 4, 2) := by decide +kernel
theorem dX7_wears_8 : decode cX7_wears 8 = .ok (.aload_n 0, 1) := by decide +kernel
theorem dX7_wears_9 : decode cX7_wears 9 = .ok (.getfield 61, 3) := by decide +kernel
theorem dX7_wears_12 : decode cX7_wears 12 = .ok (.if_icmp .ge 28, 3) := by decide +kernel
theorem dX7_wears_15 : decode cX7_wears 15 = .ok (.aload_n 1, 1) := by decide +kernel
theorem dX7_wears_16 : decode cX7_wears 16 = .ok (.iconst 5, 1) := by decide +kernel
theorem dX7_wears_17 : decode cX7_wears 17 = .ok (.iload 4, 2) := by decide +kernel
theorem dX7_wears_19 : decode cX7_wears 19 = .ok (.imul, 1) := by decide +kernel
theorem dX7_wears_20 : decode cX7_wears 20 = .ok (.iconst 4, 1) := by decide +kernel
theorem dX7_wears_21 : decode cX7_wears 21 = .ok (.iadd, 1) := by decide +kernel
theorem dX7_wears_22 : decode cX7_wears 22 = .ok (.iaload, 1) := by decide +kernel
theorem dX7_wears_23 : decode cX7_wears 23 = .ok (.iload_n 2, 1) := by decide +kernel
theorem dX7_wears_24 : decode cX7_wears 24 = .ok (.if_icmp .ne 8, 3) := by decide +kernel
theorem dX7_wears_27 : decode cX7_wears 27 = .ok (.iload 4, 2) := by decide +kernel
theorem dX7_wears_29 : decode cX7_wears 29 = .ok (.goto 4, 3) := by decide +kernel
theorem dX7_wears_32 : decode cX7_wears 32 = .ok (.iload_n 3, 1) := by decide +kernel
theorem dX7_wears_33 : decode cX7_wears 33 = .ok (.istore_n 3, 1) := by decide +kernel
theorem dX7_wears_34 : decode cX7_wears 34 = .ok (.iinc 4 1, 3) := by decide +kernel
theorem dX7_wears_37 : decode cX7_wears 37 = .ok (.goto (-31), 3) := by decide +kernel
theorem dX7_wears_40 : decode cX7_wears 40 = .ok (.iload_n 3, 1) := by decide +kernel
theorem dX7_wears_41 : decode cX7_wears 41 = .ok (.ireturn, 1) := by decide +kernel
theorem dX7_lastOf_0 : decode cX7_lastOf 0 = .ok (.aload_n 0, 1) := by decide +kernel
theorem dX7_lastOf_1 : decode cX7_lastOf 1 = .ok (.iconst 5, 1) := by decide +kernel
theorem dX7_lastOf_2 : decode cX7_lastOf 2 = .ok (.iload_n 1, 1) := by decide +kernel
theorem dX7_lastOf_3 : decode cX7_lastOf 3 = .ok (.imul, 1) := by decide +kernel
theorem dX7_lastOf_4 : decode cX7_lastOf 4 = .ok (.iaload, 1) := by decide +kernel
theorem dX7_lastOf_5 : decode cX7_lastOf 5 = .ok (.istore_n 2, 1) := by decide +kernel
theorem dX7_lastOf_6 : decode cX7_lastOf 6 = .ok (.iload_n 2, 1) := by decide +kernel
theorem dX7_lastOf_7 : decode cX7_lastOf 7 = .ok (.ifCond .ne 7, 3) := by decide +kernel
theorem dX7_lastOf_10 : decode cX7_lastOf 10 = .ok (.iconst 0, 1) := by decide +kernel
theorem dX7_lastOf_11 : decode cX7_lastOf 11 = .ok (.goto 10, 3) := by decide +kernel
theorem dX7_lastOf_14 : decode cX7_lastOf 14 = .ok (.aload_n 0, 1) := by decide +kernel
theorem dX7_lastOf_15 : decode cX7_lastOf 15 = .ok (.iconst 5, 1) := by decide +kernel
theorem dX7_lastOf_16 : decode cX7_lastOf 16 = .ok (.iload_n 1, 1) := by decide +kernel
theorem dX7_lastOf_17 : decode cX7_lastOf 17 = .ok (.imul, 1) := by decide +kernel
theorem dX7_lastOf_18 : decode cX7_lastOf 18 = .ok (.iload_n 2, 1) := by decide +kernel
theorem dX7_lastOf_19 : decode cX7_lastOf 19 = .ok (.iadd, 1) := by decide +kernel
theorem dX7_lastOf_20 : decode cX7_lastOf 20 = .ok (.iaload, 1) := by decide +kernel
theorem dX7_lastOf_21 : decode cX7_lastOf 21 = .ok (.ireturn, 1) := by decide +kernel
set_option maxRecDepth 20000 in
theorem ggX7_doesOn_X7_lastOf : GoodIn wsX7_doesOn wsX7_lastOf := goodIn_r _ [6] (by decide +kernel) (by decide +kernel)
set_option maxRecDepth 20000 in
theorem gX7_doesOn_X7_lastOf : GoodIn wsX7_doesOn (va_wsS RX7 97 yX7_lastOf wsX7_lastOf) := goodIn_app (goodIn_of _ (by decide +kernel)) ggX7_doesOn_X7_lastOf
theorem dX7_doesOn_0 : decode cX7_doesOn 0 = .ok (.aload_n 1, 1) := by decide +kernel
theorem dX7_doesOn_1 : decode cX7_doesOn 1 = .ok (.iload_n 2, 1) := by decide +kernel
theorem dX7_doesOn_2 : decode cX7_doesOn 2 = .ok (.invokestatic 97, 3) := by decide +kernel
theorem dX7_doesOn_5 : decode cX7_doesOn 5 = .ok (.istore 4, 2) := by decide +kernel
theorem dX7_doesOn_7 : decode cX7_doesOn 7 = .ok (.aload_n 0, 1) := by decide +kernel
theorem dX7_doesOn_8 : decode cX7_doesOn 8 = .ok (.getfield 16, 3) := by decide +kernel
theorem dX7_doesOn_11 : decode cX7_doesOn 11 = .ok (.iconst 3, 1) := by decide +kernel
theorem dX7_doesOn_12 : decode cX7_doesOn 12 = .ok (.iload_n 2, 1) := by decide +kernel
theorem dX7_doesOn_13 : decode cX7_doesOn 13 = .ok (.imul, 1) := by decide +kernel
theorem dX7_doesOn_14 : decode cX7_doesOn 14 = .ok (.iconst 1, 1) := by decide +kernel
theorem dX7_doesOn_15 : decode cX7_doesOn 15 = .ok (.iadd, 1) := by decide +kernel
theorem dX7_doesOn_16 : decode cX7_doesOn 16 = .ok (.iaload, 1) := by decide +kernel
theorem dX7_doesOn_17 : decode cX7_doesOn 17 = .ok (.tableswitch 83 1 3 #[27, 43, 63], 27) := by decide +kernel
theorem dX7_doesOn_44 : decode cX7_doesOn 44 = .ok (.iload 4, 2) := by decide +kernel
theorem dX7_doesOn_46 : decode cX7_doesOn 46 = .ok (.iconst 4, 1) := by decide +kernel
theorem dX7_doesOn_47 : decode cX7_doesOn 47 = .ok (.if_icmp .le 10, 3) := by decide +kernel
theorem dX7_doesOn_50 : decode cX7_doesOn 50 = .ok (.iload 4, 2) := by decide +kernel
theorem dX7_doesOn_52 : decode cX7_doesOn 52 = .ok (.iconst 4, 1) := by decide +kernel
theorem dX7_doesOn_53 : decode cX7_doesOn 53 = .ok (.isub, 1) := by decide +kernel
theorem dX7_doesOn_54 : decode cX7_doesOn 54 = .ok (.goto 5, 3) := by decide +kernel
theorem dX7_doesOn_57 : decode cX7_doesOn 57 = .ok (.iload 4, 2) := by decide +kernel
theorem dX7_doesOn_59 : decode cX7_doesOn 59 = .ok (.ireturn, 1) := by decide +kernel
theorem dX7_doesOn_60 : decode cX7_doesOn 60 = .ok (.aload_n 1, 1) := by decide +kernel
theorem dX7_doesOn_61 : decode cX7_doesOn 61 = .ok (.iconst 5, 1) := by decide +kernel
theorem dX7_doesOn_62 : decode cX7_doesOn 62 = .ok (.iload_n 2, 1) := by decide +kernel
theorem dX7_doesOn_63 : decode cX7_doesOn 63 = .ok (.imul, 1) := by decide +kernel
theorem dX7_doesOn_64 : decode cX7_doesOn 64 = .ok (.iaload, 1) := by decide +kernel
theorem dX7_doesOn_65 : decode cX7_doesOn 65 = .ok (.ifCond .ne 7, 3) := by decide +kernel
theorem dX7_doesOn_68 : decode cX7_doesOn 68 = .ok (.iconst 0, 1) := by decide +kernel
theorem dX7_doesOn_69 : decode cX7_doesOn 69 = .ok (.goto 10, 3) := by decide +kernel
theorem dX7_doesOn_72 : decode cX7_doesOn 72 = .ok (.aload_n 1, 1) := by decide +kernel
theorem dX7_doesOn_73 : decode cX7_doesOn 73 = .ok (.iconst 5, 1) := by decide +kernel
theorem dX7_doesOn_74 : decode cX7_doesOn 74 = .ok (.iload_n 2, 1) := by decide +kernel
theorem dX7_doesOn_75 : decode cX7_doesOn 75 = .ok (.imul, 1) := by decide +kernel
theorem dX7_doesOn_76 : decode cX7_doesOn 76 = .ok (.iconst 1, 1) := by decide +kernel
theorem dX7_doesOn_77 : decode cX7_doesOn 77 = .ok (.iadd, 1) := by decide +kernel
theorem dX7_doesOn_78 : decode cX7_doesOn 78 = .ok (.iaload, 1) := by decide +kernel
theorem dX7_doesOn_79 : decode cX7_doesOn 79 = .ok (.ireturn, 1) := by decide +kernel
theorem dX7_doesOn_80 : decode cX7_doesOn 80 = .ok (.iload 4, 2) := by decide +kernel
theorem dX7_doesOn_82 : decode cX7_doesOn 82 = .ok (.aload_n 0, 1) := by decide +kernel
theorem dX7_doesOn_83 : decode cX7_doesOn 83 = .ok (.getfield 13, 3) := by decide +kernel
theorem dX7_doesOn_86 : decode cX7_doesOn 86 = .ok (.iconst 3, 1) := by decide +kernel
theorem dX7_doesOn_87 : decode cX7_doesOn 87 = .ok (.iload_n 3, 1) := by decide +kernel
theorem dX7_doesOn_88 : decode cX7_doesOn 88 = .ok (.imul, 1) := by decide +kernel
theorem dX7_doesOn_89 : decode cX7_doesOn 89 = .ok (.iaload, 1) := by decide +kernel
theorem dX7_doesOn_90 : decode cX7_doesOn 90 = .ok (.if_icmp .ne 7, 3) := by decide +kernel
theorem dX7_doesOn_93 : decode cX7_doesOn 93 = .ok (.iconst 0, 1) := by decide +kernel
theorem dX7_doesOn_94 : decode cX7_doesOn 94 = .ok (.goto 5, 3) := by decide +kernel
theorem dX7_doesOn_97 : decode cX7_doesOn 97 = .ok (.iload 4, 2) := by decide +kernel
theorem dX7_doesOn_99 : decode cX7_doesOn 99 = .ok (.ireturn, 1) := by decide +kernel
theorem dX7_doesOn_100 : decode cX7_doesOn 100 = .ok (.iload 4, 2) := by decide +kernel
theorem dX7_doesOn_102 : decode cX7_doesOn 102 = .ok (.ireturn, 1) := by decide +kernel
theorem dX7_keepDoing_0 : decode cX7_keepDoing 0 = .ok (.aload_n 1, 1) := by decide +kernel
theorem dX7_keepDoing_1 : decode cX7_keepDoing 1 = .ok (.iconst 5, 1) := by decide +kernel
theorem dX7_keepDoing_2 : decode cX7_keepDoing 2 = .ok (.iload_n 2, 1) := by decide +kernel
theorem dX7_keepDoing_3 : decode cX7_keepDoing 3 = .ok (.imul, 1) := by decide +kernel
theorem dX7_keepDoing_4 : decode cX7_keepDoing 4 = .ok (.iaload, 1) := by decide +kernel
theorem dX7_keepDoing_5 : decode cX7_keepDoing 5 = .ok (.aload_n 0, 1) := by decide +kernel
theorem dX7_keepDoing_6 : decode cX7_keepDoing 6 = .ok (.getfield 16, 3) := by decide +kernel
theorem dX7_keepDoing_9 : decode cX7_keepDoing 9 = .ok (.iconst 3, 1) := by decide +kernel
theorem dX7_keepDoing_10 : decode cX7_keepDoing 10 = .ok (.iload_n 2, 1) := by decide +kernel
theorem dX7_keepDoing_11 : decode cX7_keepDoing 11 = .ok (.imul, 1) := by decide +kernel
theorem dX7_keepDoing_12 : decode cX7_keepDoing 12 = .ok (.iaload, 1) := by decide +kernel
theorem dX7_keepDoing_13 : decode cX7_keepDoing 13 = .ok (.if_icmp .ne 49, 3) := by decide +kernel
theorem dX7_keepDoing_16 : decode cX7_keepDoing 16 = .ok (.iconst 1, 1) := by decide +kernel
theorem dX7_keepDoing_17 : decode cX7_keepDoing 17 = .ok (.istore 4, 2) := by decide +kernel
theorem dX7_keepDoing_19 : decode cX7_keepDoing 19 = .ok (.iload 4, 2) := by decide +kernel
theorem dX7_keepDoing_21 : decode cX7_keepDoing 21 = .ok (.aload_n 1, 1) := by decide +kernel
theorem dX7_keepDoing_22 : decode cX7_keepDoing 22 = .ok (.iconst 5, 1) := by decide +kernel
theorem dX7_keepDoing_23 : decode cX7_keepDoing 23 = .ok (.iload_n 2, 1) := by decide +kernel
theorem dX7_keepDoing_24 : decode cX7_keepDoing 24 = .ok (.imul, 1) := by decide +kernel
theorem dX7_keepDoing_25 : decode cX7_keepDoing 25 = .ok (.iaload, 1) := by decide +kernel
theorem dX7_keepDoing_26 : decode cX7_keepDoing 26 = .ok (.if_icmp .ge 27, 3) := by decide +kernel
theorem dX7_keepDoing_29 : decode cX7_keepDoing 29 = .ok (.aload_n 1, 1) := by decide +kernel
theorem dX7_keepDoing_30 : decode cX7_keepDoing 30 = .ok (.iconst 5, 1) := by decide +kernel
theorem dX7_keepDoing_31 : decode cX7_keepDoing 31 = .ok (.iload_n 2, 1) := by decide +kernel
theorem dX7_keepDoing_32 : decode cX7_keepDoing 32 = .ok (.imul, 1) := by decide +kernel
theorem dX7_keepDoing_33 : decode cX7_keepDoing 33 = .ok (.iload 4, 2) := by decide +kernel
theorem dX7_keepDoing_35 : decode cX7_keepDoing 35 = .ok (.iadd, 1) := by decide +kernel
theorem dX7_keepDoing_36 : decode cX7_keepDoing 36 = .ok (.aload_n 1, 1) := by decide +kernel
theorem dX7_keepDoing_37 : decode cX7_keepDoing 37 = .ok (.iconst 5, 1) := by decide +kernel
theorem dX7_keepDoing_38 : decode cX7_keepDoing 38 = .ok (.iload_n 2, 1) := by decide +kernel
theorem dX7_keepDoing_39 : decode cX7_keepDoing 39 = .ok (.imul, 1) := by decide +kernel
theorem dX7_keepDoing_40 : decode cX7_keepDoing 40 = .ok (.iload 4, 2) := by decide +kernel
theorem dX7_keepDoing_42 : decode cX7_keepDoing 42 = .ok (.iadd, 1) := by decide +kernel
theorem dX7_keepDoing_43 : decode cX7_keepDoing 43 = .ok (.iconst 1, 1) := by decide +kernel
theorem dX7_keepDoing_44 : decode cX7_keepDoing 44 = .ok (.iadd, 1) := by decide +kernel
theorem dX7_keepDoing_45 : decode cX7_keepDoing 45 = .ok (.iaload, 1) := by decide +kernel
theorem dX7_keepDoing_46 : decode cX7_keepDoing 46 = .ok (.iastore, 1) := by decide +kernel
theorem dX7_keepDoing_47 : decode cX7_keepDoing 47 = .ok (.iinc 4 1, 3) := by decide +kernel
theorem dX7_keepDoing_50 : decode cX7_keepDoing 50 = .ok (.goto (-31), 3) := by decide +kernel
theorem dX7_keepDoing_53 : decode cX7_keepDoing 53 = .ok (.aload_n 1, 1) := by decide +kernel
theorem dX7_keepDoing_54 : decode cX7_keepDoing 54 = .ok (.iconst 5, 1) := by decide +kernel
theorem dX7_keepDoing_55 : decode cX7_keepDoing 55 = .ok (.iload_n 2, 1) := by decide +kernel
theorem dX7_keepDoing_56 : decode cX7_keepDoing 56 = .ok (.imul, 1) := by decide +kernel
theorem dX7_keepDoing_57 : decode cX7_keepDoing 57 = .ok (.dup2, 1) := by decide +kernel
theorem dX7_keepDoing_58 : decode cX7_keepDoing 58 = .ok (.iaload, 1) := by decide +kernel
theorem dX7_keepDoing_59 : decode cX7_keepDoing 59 = .ok (.iconst 1, 1) := by decide +kernel
theorem dX7_keepDoing_60 : decode cX7_keepDoing 60 = .ok (.isub, 1) := by decide +kernel
theorem dX7_keepDoing_61 : decode cX7_keepDoing 61 = .ok (.iastore, 1) := by decide +kernel
theorem dX7_keepDoing_62 : decode cX7_keepDoing 62 = .ok (.aload_n 1, 1) := by decide +kernel
theorem dX7_keepDoing_63 : decode cX7_keepDoing 63 = .ok (.iconst 5, 1) := by decide +kernel
theorem dX7_keepDoing_64 : decode cX7_keepDoing 64 = .ok (.iload_n 2, 1) := by decide +kernel
theorem dX7_keepDoing_65 : decode cX7_keepDoing 65 = .ok (.imul, 1) := by decide +kernel
theorem dX7_keepDoing_66 : decode cX7_keepDoing 66 = .ok (.dup2, 1) := by decide +kernel
theorem dX7_keepDoing_67 : decode cX7_keepDoing 67 = .ok (.iaload, 1) := by decide +kernel
theorem dX7_keepDoing_68 : decode cX7_keepDoing 68 = .ok (.iconst 1, 1) := by decide +kernel
theorem dX7_keepDoing_69 : decode cX7_keepDoing 69 = .ok (.iadd, 1) := by decide +kernel
theorem dX7_keepDoing_70 : decode cX7_keepDoing 70 = .ok (.iastore, 1) := by decide +kernel
theorem dX7_keepDoing_71 : decode cX7_keepDoing 71 = .ok (.aload_n 1, 1) := by decide +kernel
theorem dX7_keepDoing_72 : decode cX7_keepDoing 72 = .ok (.iconst 5, 1) := by decide +kernel
theorem dX7_keepDoing_73 : decode cX7_keepDoing 73 = .ok (.iload_n 2, 1) := by decide +kernel
theorem dX7_keepDoing_74 : decode cX7_keepDoing 74 = .ok (.imul, 1) := by decide +kernel
theorem dX7_keepDoing_75 : decode cX7_keepDoing 75 = .ok (.aload_n 1, 1) := by decide +kernel
theorem dX7_keepDoing_76 : decode cX7_keepDoing 76 = .ok (.iconst 5, 1) := by decide +kernel
theorem dX7_keepDoing_77 : decode cX7_keepDoing 77 = .ok (.iload_n 2, 1) := by decide +kernel
theorem dX7_keepDoing_78 : decode cX7_keepDoing 78 = .ok (.imul, 1) := by decide +kernel
theorem dX7_keepDoing_79 : decode cX7_keepDoing 79 = .ok (.iaload, 1) := by decide +kernel
theorem dX7_keepDoing_80 : decode cX7_keepDoing 80 = .ok (.iadd, 1) := by decide +kernel
theorem dX7_keepDoing_81 : decode cX7_keepDoing 81 = .ok (.iload_n 3, 1) := by decide +kernel
theorem dX7_keepDoing_82 : decode cX7_keepDoing 82 = .ok (.iastore, 1) := by decide +kernel
theorem dX7_keepDoing_83 : decode cX7_keepDoing 83 = .ok (.return_, 1) := by decide +kernel
set_option maxRecDepth 20000 in
theorem ggX7_goOff_X7_keepDoing : GoodIn wsX7_goOff wsX7_keepDoing := goodIn_r _ [6, 7, 8, 9, 10, 11, 12, 13, 14, 15, 16, 17, 18, 19, 20, 21, 22, 23, 24, 25, 26, 27, 28, 29, 30, 31, 32, 33, 34, 35, 36, 37, 38] (by decide +kernel) (by decide +kernel)
set_option maxRecDepth 20000 in
theorem gX7_goOff_X7_keepDoing : GoodIn wsX7_goOff (wsV RX7 101 RX7 yX7_keepDoing wsX7_keepDoing) := goodIn_app (goodIn_of _ (by decide +kernel)) ggX7_goOff_X7_keepDoing
theorem dX7_goOff_0 : decode cX7_goOff 0 = .ok (.aload_n 0, 1) := by decide +kernel
theorem dX7_goOff_1 : decode cX7_goOff 1 = .ok (.aload_n 1, 1) := by decide +kernel
theorem dX7_goOff_2 : decode cX7_goOff 2 = .ok (.iload_n 2, 1) := by decide +kernel
theorem dX7_goOff_3 : decode cX7_goOff 3 = .ok (.aload_n 0, 1) := by decide +kernel
theorem dX7_goOff_4 : decode cX7_goOff 4 = .ok (.getfield 13, 3) := by decide +kernel
theorem dX7_goOff_7 : decode cX7_goOff 7 = .ok (.iconst 3, 1) := by decide +kernel
theorem dX7_goOff_8 : decode cX7_goOff 8 = .ok (.aload_n 1, 1) := by decide +kernel
theorem dX7_goOff_9 : decode cX7_goOff 9 = .ok (.iconst 5, 1) := by decide +kernel
theorem dX7_goOff_10 : decode cX7_goOff 10 = .ok (.iload_n 2, 1) := by decide +kernel
theorem dX7_goOff_11 : decode cX7_goOff 11 = .ok (.imul, 1) := by decide +kernel
theorem dX7_goOff_12 : decode cX7_goOff 12 = .ok (.iconst 4, 1) := by decide +kernel
theorem dX7_goOff_13 : decode cX7_goOff 13 = .ok (.iadd, 1) := by decide +kernel
theorem dX7_goOff_14 : decode cX7_goOff 14 = .ok (.iaload, 1) := by decide +kernel
theorem dX7_goOff_15 : decode cX7_goOff 15 = .ok (.imul, 1) := by decide +kernel
theorem dX7_goOff_16 : decode cX7_goOff 16 = .ok (.iaload, 1) := by decide +kernel
theorem dX7_goOff_17 : decode cX7_goOff 17 = .ok (.invokevirtual 101, 3) := by decide +kernel
theorem dX7_goOff_20 : decode cX7_goOff 20 = .ok (.aload_n 1, 1) := by decide +kernel
theorem dX7_goOff_21 : decode cX7_goOff 21 = .ok (.iconst 5, 1) := by decide +kernel
theorem dX7_goOff_22 : decode cX7_goOff 22 = .ok (.iload_n 2, 1) := by decide +kernel
theorem dX7_goOff_23 : decode cX7_goOff 23 = .ok (.imul, 1) := by decide +kernel
theorem dX7_goOff_24 : decode cX7_goOff 24 = .ok (.iconst 4, 1) := by decide +kernel
theorem dX7_goOff_25 : decode cX7_goOff 25 = .ok (.iadd, 1) := by decide +kernel
theorem dX7_goOff_26 : decode cX7_goOff 26 = .ok (.bipush (-9), 2) := by decide +kernel
theorem dX7_goOff_28 : decode cX7_goOff 28 = .ok (.iastore, 1) := by decide +kernel
theorem dX7_goOff_29 : decode cX7_goOff 29 = .ok (.return_, 1) := by decide +kernel
set_option maxRecDepth 20000 in
theorem ggX7_goHand_X7_doesOn : GoodIn wsX7_goHand wsX7_doesOn := goodIn_r _ [6, 7, 1, 8, 9, 5, 10, 15, 16, 17, 18, 19, 20, 21, 22, 23, 24, 25, 26, 27, 28, 29, 30, 31, 32, 33, 34, 35, 36, 37, 38, 39, 40, 41, 42, 43, 44, 45] (by decide +kernel) (by decide +kernel)
set_option maxRecDepth 20000 in
theorem gX7_goHand_X7_doesOn : GoodIn wsX7_goHand (wsV RX7 105 RX7 yX7_doesOn wsX7_doesOn) := goodIn_app (goodIn_of _ (by decide +kernel)) ggX7_goHand_X7_doesOn
set_option maxRecDepth 20000 in
theorem ggX7_goHand_X7_keepDoing : GoodIn wsX7_goHand wsX7_keepDoing := goodIn_r _ [14, 7, 15, 16, 17, 18, 19, 20, 21, 22, 23, 24, 25, 26, 27, 28, 29, 30, 31, 32, 33, 34, 35, 36, 37, 38, 39, 40, 41, 42, 43, 44, 45] (by decide +kernel) (by decide +kernel)
set_option maxRecDepth 20000 in
theorem gX7_goHand_X7_keepDoing : GoodIn wsX7_goHand (wsV RX7 101 RX7 yX7_keepDoing wsX7_keepDoing) := goodIn_app (goodIn_of _ (by decide +kernel)) ggX7_goHand_X7_keepDoing
theorem dX7_goHand_0 : decode cX7_goHand 0 = .ok (.aload_n 0, 1) := by decide +kernel
theorem dX7_goHand_1 : decode cX7_goHand 1 = .ok (.aload_n 1, 1) := by decide +kernel
theorem dX7_goHand_2 : decode cX7_goHand 2 = .ok (.iload_n 2, 1) := by decide +kernel
theorem dX7_goHand_3 : decode cX7_goHand 3 = .ok (.iload_n 3, 1) := by decide +kernel
theorem dX7_goHand_4 : decode cX7_goHand 4 = .ok (.invokevirtual 105, 3) := by decide +kernel
theorem dX7_goHand_7 : decode cX7_goHand 7 = .ok (.istore 4, 2) := by decide +kernel
theorem dX7_goHand_9 : decode cX7_goHand 9 = .ok (.aload_n 0, 1) := by decide +kernel
theorem dX7_goHand_10 : decode cX7_goHand 10 = .ok (.aload_n 1, 1) := by decide +kernel
theorem dX7_goHand_11 : decode cX7_goHand 11 = .ok (.iload_n 2, 1) := by decide +kernel
theorem dX7_goHand_12 : decode cX7_goHand 12 = .ok (.aload_n 0, 1) := by decide +kernel
theorem dX7_goHand_13 : decode cX7_goHand 13 = .ok (.getfield 13, 3) := by decide +kernel
theorem dX7_goHand_16 : decode cX7_goHand 16 = .ok (.iconst 3, 1) := by decide +kernel
theorem dX7_goHand_17 : decode cX7_goHand 17 = .ok (.iload_n 3, 1) := by decide +kernel
theorem dX7_goHand_18 : decode cX7_goHand 18 = .ok (.imul, 1) := by decide +kernel
theorem dX7_goHand_19 : decode cX7_goHand 19 = .ok (.iaload, 1) := by decide +kernel
theorem dX7_goHand_20 : decode cX7_goHand 20 = .ok (.invokevirtual 101, 3) := by decide +kernel
theorem dX7_goHand_23 : decode cX7_goHand 23 = .ok (.iload 4, 2) := by decide +kernel
theorem dX7_goHand_25 : decode cX7_goHand 25 = .ok (.ireturn, 1) := by decide +kernel
set_option maxRecDepth 20000 in
theorem ggX7_about_X7_isWorn : GoodIn wsX7_about wsX7_isWorn := goodIn_r _ [12] (by decide +kernel) (by decide +kernel)
set_option maxRecDepth 20000 in
theorem gX7_about_X7_isWorn : GoodIn wsX7_about (wsV RX7 109 RX7 yX7_isWorn wsX7_isWorn) := goodIn_app (goodIn_of _ (by decide +kernel)) ggX7_about_X7_isWorn
theorem dX7_about_0 : decode cX7_about 0 = .ok (.aload_n 0, 1) := by decide +kernel
theorem dX7_about_1 : decode cX7_about 1 = .ok (.iconst 0, 1) := by decide +kernel
theorem dX7_about_2 : decode cX7_about 2 = .ok (.putfield 50, 3) := by decide +kernel
theorem dX7_about_5 : decode cX7_about 5 = .ok (.iconst 0, 1) := by decide +kernel
theorem dX7_about_6 : decode cX7_about 6 = .ok (.istore_n 2, 1) := by decide +kernel
theorem dX7_about_7 : decode cX7_about 7 = .ok (.iconst 0, 1) := by decide +kernel
theorem dX7_about_8 : decode cX7_about 8 = .ok (.istore_n 3, 1) := by decide +kernel
theorem dX7_about_9 : decode cX7_about 9 = .ok (.iload_n 3, 1) := by decide +kernel
theorem dX7_about_10 : decode cX7_about 10 = .ok (.aload_n 0, 1) := by decide +kernel
theorem dX7_about_11 : decode cX7_about 11 = .ok (.getfield 61, 3) := by decide +kernel
theorem dX7_about_14 : decode cX7_about 14 = .ok (.if_icmp .ge 31, 3) := by decide +kernel
theorem dX7_about_17 : decode cX7_about 17 = .ok (.iload_n 2, 1) := by decide +kernel
theorem dX7_about_18 : decode cX7_about 18 = .ok (.aload_n 0, 1) := by decide +kernel
theorem dX7_about_19 : decode cX7_about 19 = .ok (.aload_n 0, 1) := by decide +kernel
theorem dX7_about_20 : decode cX7_about 20 = .ok (.getfield 25, 3) := by decide +kernel
theorem dX7_about_23 : decode cX7_about 23 = .ok (.iload_n 3, 1) := by decide +kernel
theorem dX7_about_24 : decode cX7_about 24 = .ok (.invokevirtual 109, 3) := by decide +kernel
theorem dX7_about_27 : decode cX7_about 27 = .ok (.ifCond .eq 9, 3) := by decide +kernel
theorem dX7_about_30 : decode cX7_about 30 = .ok (.iconst 1, 1) := by decide +kernel
theorem dX7_about_31 : decode cX7_about 31 = .ok (.iload_n 3, 1) := by decide +kernel
theorem dX7_about_32 : decode cX7_about 32 = .ok (.ishl, 1) := by decide +kernel
theorem dX7_about_33 : decode cX7_about 33 = .ok (.goto 4, 3) := by decide +kernel
theorem dX7_about_36 : decode cX7_about 36 = .ok (.iconst 0, 1) := by decide +kernel
theorem dX7_about_37 : decode cX7_about 37 = .ok (.ior, 1) := by decide +kernel
theorem dX7_about_38 : decode cX7_about 38 = .ok (.istore_n 2, 1) := by decide +kernel
theorem dX7_about_39 : decode cX7_about 39 = .ok (.iinc 3 1, 3) := by decide +kernel
theorem dX7_about_42 : decode cX7_about 42 = .ok (.goto (-33), 3) := by decide +kernel
theorem dX7_about_45 : decode cX7_about 45 = .ok (.iload_n 1, 1) := by decide +kernel
theorem dX7_about_46 : decode cX7_about 46 = .ok (.tableswitch 77 0 6 #[42, 47, 52, 60, 62, 67, 72], 42) := by decide +kernel
theorem dX7_about_88 : decode cX7_about 88 = .ok (.aload_n 0, 1) := by decide +kernel
theorem dX7_about_89 : decode cX7_about 89 = .ok (.getfield 54, 3) := by decide +kernel
theorem dX7_about_92 : decode cX7_about 92 = .ok (.ireturn, 1) := by decide +kernel
theorem dX7_about_93 : decode cX7_about 93 = .ok (.aload_n 0, 1) := by decide +kernel
theorem dX7_about_94 : decode cX7_about 94 = .ok (.getfield 61, 3) := by decide +kernel
theorem dX7_about_97 : decode cX7_about 97 = .ok (.ireturn, 1) := by decide +kernel
theorem dX7_about_98 : decode cX7_about 98 = .ok (.aload_n 0, 1) := by decide +kernel
theorem dX7_about_99 : decode cX7_about 99 = .ok (.getfield 25, 3) := by decide +kernel
theorem dX7_about_102 : decode cX7_about 102 = .ok (.bipush 20, 2) := by decide +kernel
theorem dX7_about_104 : decode cX7_about 104 = .ok (.iaload, 1) := by decide +kernel
theorem dX7_about_105 : decode cX7_about 105 = .ok (.ireturn, 1) := by decide +kernel
theorem dX7_about_106 : decode cX7_about 106 = .ok (.iload_n 2, 1) := by decide +kernel
theorem dX7_about_107 : decode cX7_about 107 = .ok (.ireturn, 1) := by decide +kernel
theorem dX7_about_108 : decode cX7_about 108 = .ok (.aload_n 0, 1) := by decide +kernel
theorem dX7_about_109 : decode cX7_about 109 = .ok (.getfield 94, 3) := by decide +kernel
theorem dX7_about_112 : decode cX7_about 112 = .ok (.ireturn, 1) := by decide +kernel
theorem dX7_about_113 : decode cX7_about 113 = .ok (.aload_n 0, 1) := by decide +kernel
theorem dX7_about_114 : decode cX7_about 114 = .ok (.getfield 113, 3) := by decide +kernel
theorem dX7_about_117 : decode cX7_about 117 = .ok (.ireturn, 1) := by decide +kernel
theorem dX7_about_118 : decode cX7_about 118 = .ok (.aload_n 0, 1) := by decide +kernel
theorem dX7_about_119 : decode cX7_about 119 = .ok (.getfield 66, 3) := by decide +kernel
theorem dX7_about_122 : decode cX7_about 122 = .ok (.ireturn, 1) := by decide +kernel
theorem dX7_about_123 : decode cX7_about 123 = .ok (.bipush (-2), 2) := by decide +kernel
theorem dX7_about_125 : decode cX7_about 125 = .ok (.ireturn, 1) := by decide +kernel
set_option maxRecDepth 20000 in
theorem ggX7_person_X7_noPerson : GoodIn wsX7_person wsX7_noPerson := goodIn_r _ [9, 10, 11, 12, 8, 13, 19, 20, 21, 22, 23, 24, 25, 26, 27, 28, 29, 30, 31, 32, 33, 34, 35, 36, 37, 38, 39, 40, 41, 42, 43, 44, 45, 46, 47, 48, 49] (by decide +kernel) (by decide +kernel)
set_option maxRecDepth 20000 in
theorem gX7_person_X7_noPerson : GoodIn wsX7_person (wsV RX7 116 RX7 yX7_noPerson wsX7_noPerson) := goodIn_app (goodIn_of _ (by decide +kernel)) ggX7_person_X7_noPerson
set_option maxRecDepth 20000 in
theorem ggX7_person_X7_in : GoodIn wsX7_person wsX7_in := goodIn_r _ [13] (by decide +kernel) (by decide +kernel)
set_option maxRecDepth 20000 in
theorem gX7_person_X7_in : GoodIn wsX7_person (va_wsS RX7 57 yX7_in wsX7_in) := goodIn_app (goodIn_of _ (by decide +kernel)) ggX7_person_X7_in
set_option maxRecDepth 20000 in
theorem ggX7_person_X7_wears : GoodIn wsX7_person wsX7_wears := goodIn_r _ [17, 18, 19, 20, 21, 22, 23, 24, 25, 26, 27, 28, 29, 30, 31, 32, 33, 34, 35, 36, 37, 38, 39, 40, 41, 42, 43, 44, 45, 46, 47, 48, 49] (by decide +kernel) (by decide +kernel)
set_option maxRecDepth 20000 in
theorem gX7_person_X7_wears : GoodIn wsX7_person (wsV RX7 122 RX7 yX7_wears wsX7_wears) := goodIn_app (goodIn_of _ (by decide +kernel)) ggX7_person_X7_wears
theorem dX7_person_0 : decode cX7_person 0 = .ok (.aload_n 0, 1) := by decide +kernel
theorem dX7_person_1 : decode cX7_person 1 = .ok (.iconst 0, 1) := by decide +kernel
theorem dX7_person_2 : decode cX7_person 2 = .ok (.putfield 50, 3) := by decide +kernel
theorem dX7_person_5 : decode cX7_person 5 = .ok (.aload_n 0, 1) := by decide +kernel
theorem dX7_person_6 : decode cX7_person 6 = .ok (.iload_n 1, 1) := by decide +kernel
theorem dX7_person_7 : decode cX7_person 7 = .ok (.invokevirtual 116, 3) := by decide +kernel
theorem dX7_person_10 : decode cX7_person 10 = .ok (.ifCond .eq 5, 3) := by decide +kernel
theorem dX7_person_13 : decode cX7_person 13 = .ok (.iconst (-1), 1) := by decide +kernel
theorem dX7_person_14 : decode cX7_person 14 = .ok (.ireturn, 1) := by decide +kernel
theorem dX7_person_15 : decode cX7_person 15 = .ok (.iload_n 2, 1) := by decide +kernel
theorem dX7_person_16 : decode cX7_person 16 = .ok (.i2l, 1) := by decide +kernel
theorem dX7_person_17 : decode cX7_person 17 = .ok (.lconst 0, 1) := by decide +kernel
theorem dX7_person_18 : decode cX7_person 18 = .ok (.ldc2_w 120, 3) := by decide +kernel
theorem dX7_person_21 : decode cX7_person 21 = .ok (.invokestatic 57, 3) := by decide +kernel
theorem dX7_person_24 : decode cX7_person 24 = .ok (.ifCond .eq 16, 3) := by decide +kernel
theorem dX7_person_27 : decode cX7_person 27 = .ok (.aload_n 0, 1) := by decide +kernel
theorem dX7_person_28 : decode cX7_person 28 = .ok (.getfield 13, 3) := by decide +kernel
theorem dX7_person_31 : decode cX7_person 31 = .ok (.iconst 3, 1) := by decide +kernel
theorem dX7_person_32 : decode cX7_person 32 = .ok (.iload_n 1, 1) := by decide +kernel
theorem dX7_person_33 : decode cX7_person 33 = .ok (.imul, 1) := by decide +kernel
theorem dX7_person_34 : decode cX7_person 34 = .ok (.iload_n 2, 1) := by decide +kernel
theorem dX7_person_35 : decode cX7_person 35 = .ok (.iadd, 1) := by decide +kernel
theorem dX7_person_36 : decode cX7_person 36 = .ok (.iaload, 1) := by decide +kernel
theorem dX7_person_37 : decode cX7_person 37 = .ok (.goto 22, 3) := by decide +kernel
theorem dX7_person_40 : decode cX7_person 40 = .ok (.iload_n 2, 1) := by decide +kernel
theorem dX7_person_41 : decode cX7_person 41 = .ok (.iconst 3, 1) := by decide +kernel
theorem dX7_person_42 : decode cX7_person 42 = .ok (.if_icmp .ne 15, 3) := by decide +kernel
theorem dX7_person_45 : decode cX7_person 45 = .ok (.aload_n 0, 1) := by decide +kernel
theorem dX7_person_46 : decode cX7_person 46 = .ok (.aload_n 0, 1) := by decide +kernel
theorem dX7_person_47 : decode cX7_person 47 = .ok (.getfield 25, 3) := by decide +kernel
theorem dX7_person_50 : decode cX7_person 50 = .ok (.iload_n 1, 1) := by decide +kernel
theorem dX7_person_51 : decode cX7_person 51 = .ok (.invokevirtual 122, 3) := by decide +kernel
theorem dX7_person_54 : decode cX7_person 54 = .ok (.goto 5, 3) := by decide +kernel
theorem dX7_person_57 : decode cX7_person 57 = .ok (.bipush (-2), 2) := by decide +kernel
theorem dX7_person_59 : decode cX7_person 59 = .ok (.ireturn, 1) := by decide +kernel
set_option maxRecDepth 20000 in
theorem ggX7_glove_X7_noGlove : GoodIn wsX7_glove wsX7_noGlove := goodIn_r _ [8, 9, 10, 11, 7, 12, 13, 14, 15, 16, 17, 18, 19, 20, 21, 22, 23, 24, 25, 26, 27, 28, 29, 30, 31, 32, 33, 34, 35, 36, 37, 38, 39, 40, 41, 42, 43] (by decide +kernel) (by decide +kernel)
set_option maxRecDepth 20000 in
theorem gX7_glove_X7_noGlove : GoodIn wsX7_glove (wsV RX7 125 RX7 yX7_noGlove wsX7_noGlove) := goodIn_app (goodIn_of _ (by decide +kernel)) ggX7_glove_X7_noGlove
theorem dX7_glove_0 : decode cX7_glove 0 = .ok (.aload_n 0, 1) := by decide +kernel
theorem dX7_glove_1 : decode cX7_glove 1 = .ok (.iconst 0, 1) := by decide +kernel
theorem dX7_glove_2 : decode cX7_glove 2 = .ok (.putfield 50, 3) := by decide +kernel
theorem dX7_glove_5 : decode cX7_glove 5 = .ok (.aload_n 0, 1) := by decide +kernel
theorem dX7_glove_6 : decode cX7_glove 6 = .ok (.iload_n 1, 1) := by decide +kernel
theorem dX7_glove_7 : decode cX7_glove 7 = .ok (.invokevirtual 125, 3) := by decide +kernel
theorem dX7_glove_10 : decode cX7_glove 10 = .ok (.ifCond .eq 5, 3) := by decide +kernel
theorem dX7_glove_13 : decode cX7_glove 13 = .ok (.iconst (-1), 1) := by decide +kernel
theorem dX7_glove_14 : decode cX7_glove 14 = .ok (.ireturn, 1) := by decide +kernel
theorem dX7_glove_15 : decode cX7_glove 15 = .ok (.iconst 0, 1) := by decide +kernel
theorem dX7_glove_16 : decode cX7_glove 16 = .ok (.istore_n 3, 1) := by decide +kernel
theorem dX7_glove_17 : decode cX7_glove 17 = .ok (.iload_n 2, 1) := by decide +kernel
theorem dX7_glove_18 : decode cX7_glove 18 = .ok (.tableswitch 106 0 4 #[34, 34, 45, 54, 95], 34) := by decide +kernel
theorem dX7_glove_52 : decode cX7_glove 52 = .ok (.aload_n 0, 1) := by decide +kernel
theorem dX7_glove_53 : decode cX7_glove 53 = .ok (.getfield 16, 3) := by decide +kernel
theorem dX7_glove_56 : decode cX7_glove 56 = .ok (.iconst 3, 1) := by decide +kernel
theorem dX7_glove_57 : decode cX7_glove 57 = .ok (.iload_n 1, 1) := by decide +kernel
theorem dX7_glove_58 : decode cX7_glove 58 = .ok (.imul, 1) := by decide +kernel
theorem dX7_glove_59 : decode cX7_glove 59 = .ok (.iload_n 2, 1) := by decide +kernel
theorem dX7_glove_60 : decode cX7_glove 60 = .ok (.iadd, 1) := by decide +kernel
theorem dX7_glove_61 : decode cX7_glove 61 = .ok (.iaload, 1) := by decide +kernel
theorem dX7_glove_62 : decode cX7_glove 62 = .ok (.ireturn, 1) := by decide +kernel
theorem dX7_glove_63 : decode cX7_glove 63 = .ok (.aload_n 0, 1) := by decide +kernel
theorem dX7_glove_64 : decode cX7_glove 64 = .ok (.getfield 25, 3) := by decide +kernel
theorem dX7_glove_67 : decode cX7_glove 67 = .ok (.iconst 5, 1) := by decide +kernel
theorem dX7_glove_68 : decode cX7_glove 68 = .ok (.iload_n 1, 1) := by decide +kernel
theorem dX7_glove_69 : decode cX7_glove 69 = .ok (.imul, 1) := by decide +kernel
theorem dX7_glove_70 : decode cX7_glove 70 = .ok (.iaload, 1) := by decide +kernel
theorem dX7_glove_71 : decode cX7_glove 71 = .ok (.ireturn, 1) := by decide +kernel
theorem dX7_glove_72 : decode cX7_glove 72 = .ok (.iconst 1, 1) := by decide +kernel
theorem dX7_glove_73 : decode cX7_glove 73 = .ok (.istore 4, 2) := by decide +kernel
theorem dX7_glove_75 : decode cX7_glove 75 = .ok (.iload 4, 2) := by decide +kernel
theorem dX7_glove_77 : decode cX7_glove 77 = .ok (.aload_n 0, 1) := by decide +kernel
theorem dX7_glove_78 : decode cX7_glove 78 = .ok (.getfield 25, 3) := by decide +kernel
theorem dX7_glove_81 : decode cX7_glove 81 = .ok (.iconst 5, 1) := by decide +kernel
theorem dX7_glove_82 : decode cX7_glove 82 = .ok (.iload_n 1, 1) := by decide +kernel
theorem dX7_glove_83 : decode cX7_glove 83 = .ok (.imul, 1) := by decide +kernel
theorem dX7_glove_84 : decode cX7_glove 84 = .ok (.iaload, 1) := by decide +kernel
theorem dX7_glove_85 : decode cX7_glove 85 = .ok (.if_icmp .gt 26, 3) := by decide +kernel
theorem dX7_glove_88 : decode cX7_glove 88 = .ok (.bipush 10, 2) := by decide +kernel
theorem dX7_glove_90 : decode cX7_glove 90 = .ok (.iload_n 3, 1) := by decide +kernel
theorem dX7_glove_91 : decode cX7_glove 91 = .ok (.imul, 1) := by decide +kernel
theorem dX7_glove_92 : decode cX7_glove 92 = .ok (.aload_n 0, 1) := by decide +kernel
theorem dX7_glove_93 : decode cX7_glove 93 = .ok (.getfield 25, 3) := by decide +kernel
theorem dX7_glove_96 : decode cX7_glove 96 = .ok (.iconst 5, 1) := by decide +kernel
theorem dX7_glove_97 : decode cX7_glove 97 = .ok (.iload_n 1, 1) := by decide +kernel
theorem dX7_glove_98 : decode cX7_glove 98 = .ok (.imul, 1) := by decide +kernel
theorem dX7_glove_99 : decode cX7_glove 99 = .ok (.iload 4, 2) := by decide +kernel
theorem dX7_glove_101 : decode cX7_glove 101 = .ok (.iadd, 1) := by decide +kernel
theorem dX7_glove_102 : decode cX7_glove 102 = .ok (.iaload, 1) := by decide +kernel
theorem dX7_glove_103 : decode cX7_glove 103 = .ok (.iadd, 1) := by decide +kernel
theorem dX7_glove_104 : decode cX7_glove 104 = .ok (.istore_n 3, 1) := by decide +kernel
theorem dX7_glove_105 : decode cX7_glove 105 = .ok (.iinc 4 1, 3) := by decide +kernel
theorem dX7_glove_108 : decode cX7_glove 108 = .ok (.goto (-33), 3) := by decide +kernel
theorem dX7_glove_111 : decode cX7_glove 111 = .ok (.iload_n 3, 1) := by decide +kernel
theorem dX7_glove_112 : decode cX7_glove 112 = .ok (.ireturn, 1) := by decide +kernel
theorem dX7_glove_113 : decode cX7_glove 113 = .ok (.aload_n 0, 1) := by decide +kernel
theorem dX7_glove_114 : decode cX7_glove 114 = .ok (.getfield 25, 3) := by decide +kernel
theorem dX7_glove_117 : decode cX7_glove 117 = .ok (.iconst 5, 1) := by decide +kernel
theorem dX7_glove_118 : decode cX7_glove 118 = .ok (.iload_n 1, 1) := by decide +kernel
theorem dX7_glove_119 : decode cX7_glove 119 = .ok (.imul, 1) := by decide +kernel
theorem dX7_glove_120 : decode cX7_glove 120 = .ok (.iconst 4, 1) := by decide +kernel
theorem dX7_glove_121 : decode cX7_glove 121 = .ok (.iadd, 1) := by decide +kernel
theorem dX7_glove_122 : decode cX7_glove 122 = .ok (.iaload, 1) := by decide +kernel
theorem dX7_glove_123 : decode cX7_glove 123 = .ok (.ireturn, 1) := by decide +kernel
theorem dX7_glove_124 : decode cX7_glove 124 = .ok (.bipush (-2), 2) := by decide +kernel
theorem dX7_glove_126 : decode cX7_glove 126 = .ok (.ireturn, 1) := by decide +kernel
theorem dX7_note_0 : decode cX7_note 0 = .ok (.aload_n 0, 1) := by decide +kernel
theorem dX7_note_1 : decode cX7_note 1 = .ok (.getfield 94, 3) := by decide +kernel
theorem dX7_note_4 : decode cX7_note 4 = .ok (.bipush 14, 2) := by decide +kernel
theorem dX7_note_6 : decode cX7_note 6 = .ok (.if_icmp .ne 43, 3) := by decide +kernel
theorem dX7_note_9 : decode cX7_note 9 = .ok (.iconst 0, 1) := by decide +kernel
theorem dX7_note_10 : decode cX7_note 10 = .ok (.istore_n 1, 1) := by decide +kernel
theorem dX7_note_11 : decode cX7_note 11 = .ok (.iload_n 1, 1) := by decide +kernel
theorem dX7_note_12 : decode cX7_note 12 = .ok (.sipush 273, 3) := by decide +kernel
theorem dX7_note_15 : decode cX7_note 15 = .ok (.if_icmp .ge 24, 3) := by decide +kernel
theorem dX7_note_18 : decode cX7_note 18 = .ok (.aload_n 0, 1) := by decide +kernel
theorem dX7_note_19 : decode cX7_note 19 = .ok (.getfield 31, 3) := by decide +kernel
theorem dX7_note_22 : decode cX7_note 22 = .ok (.iload_n 1, 1) := by decide +kernel
theorem dX7_note_23 : decode cX7_note 23 = .ok (.aload_n 0, 1) := by decide +kernel
theorem dX7_note_24 : decode cX7_note 24 = .ok (.getfield 31, 3) := by decide +kernel
theorem dX7_note_27 : decode cX7_note 27 = .ok (.iload_n 1, 1) := by decide +kernel
theorem dX7_note_28 : decode cX7_note 28 = .ok (.bipush 21, 2) := by decide +kernel
theorem dX7_note_30 : decode cX7_note 30 = .ok (.iadd, 1) := by decide +kernel
theorem dX7_note_31 : decode cX7_note 31 = .ok (.iaload, 1) := by decide +kernel
theorem dX7_note_32 : decode cX7_note 32 = .ok (.iastore, 1) := by decide +kernel
theorem dX7_note_33 : decode cX7_note 33 = .ok (.iinc 1 1, 3) := by decide +kernel
theorem dX7_note_36 : decode cX7_note 36 = .ok (.goto (-25), 3) := by decide +kernel
theorem dX7_note_39 : decode cX7_note 39 = .ok (.aload_n 0, 1) := by decide +kernel
theorem dX7_note_40 : decode cX7_note 40 = .ok (.dup, 1) := by decide +kernel
theorem dX7_note_41 : decode cX7_note 41 = .ok (.getfield 94, 3) := by decide +kernel
theorem dX7_note_44 : decode cX7_note 44 = .ok (.iconst 1, 1) := by decide +kernel
theorem dX7_note_45 : decode cX7_note 45 = .ok (.isub, 1) := by decide +kernel
theorem dX7_note_46 : decode cX7_note 46 = .ok (.putfield 94, 3) := by decide +kernel
theorem dX7_note_49 : decode cX7_note 49 = .ok (.iconst 0, 1) := by decide +kernel
theorem dX7_note_50 : decode cX7_note 50 = .ok (.istore_n 1, 1) := by decide +kernel
theorem dX7_note_51 : decode cX7_note 51 = .ok (.iload_n 1, 1) := by decide +kernel
theorem dX7_note_52 : decode cX7_note 52 = .ok (.bipush 21, 2) := by decide +kernel
theorem dX7_note_54 : decode cX7_note 54 = .ok (.if_icmp .ge 29, 3) := by decide +kernel
theorem dX7_note_57 : decode cX7_note 57 = .ok (.aload_n 0, 1) := by decide +kernel
theorem dX7_note_58 : decode cX7_note 58 = .ok (.getfield 31, 3) := by decide +kernel
theorem dX7_note_61 : decode cX7_note 61 = .ok (.bipush 21, 2) := by decide +kernel
theorem dX7_note_63 : decode cX7_note 63 = .ok (.aload_n 0, 1) := by decide +kernel
theorem dX7_note_64 : decode cX7_note 64 = .ok (.getfield 94, 3) := by decide +kernel
theorem dX7_note_67 : decode cX7_note 67 = .ok (.imul, 1) := by decide +kernel
theorem dX7_note_68 : decode cX7_note 68 = .ok (.iload_n 1, 1) := by decide +kernel
theorem dX7_note_69 : decode cX7_note 69 = .ok (.iadd, 1) := by decide +kernel
theorem dX7_note_70 : decode cX7_note 70 = .ok (.aload_n 0, 1) := by decide +kernel
theorem dX7_note_71 : decode cX7_note 71 = .ok (.getfield 25, 3) := by decide +kernel
theorem dX7_note_74 : decode cX7_note 74 = .ok (.iload_n 1, 1) := by decide +kernel
theorem dX7_note_75 : decode cX7_note 75 = .ok (.iaload, 1) := by decide +kernel
theorem dX7_note_76 : decode cX7_note 76 = .ok (.iastore, 1) := by decide +kernel
theorem dX7_note_77 : decode cX7_note 77 = .ok (.iinc 1 1, 3) := by decide +kernel
theorem dX7_note_80 : decode cX7_note 80 = .ok (.goto (-29), 3) := by decide +kernel
theorem dX7_note_83 : decode cX7_note 83 = .ok (.aload_n 0, 1) := by decide +kernel
theorem dX7_note_84 : decode cX7_note 84 = .ok (.dup, 1) := by decide +kernel
theorem dX7_note_85 : decode cX7_note 85 = .ok (.getfield 94, 3) := by decide +kernel
theorem dX7_note_88 : decode cX7_note 88 = .ok (.iconst 1, 1) := by decide +kernel
theorem dX7_note_89 : decode cX7_note 89 = .ok (.iadd, 1) := by decide +kernel
theorem dX7_note_90 : decode cX7_note 90 = .ok (.putfield 94, 3) := by decide +kernel
theorem dX7_note_93 : decode cX7_note 93 = .ok (.return_, 1) := by decide +kernel
set_option maxRecDepth 20000 in
theorem ggX7_wear_X7_noGlove : GoodIn wsX7_wear wsX7_noGlove := goodIn_r _ [7, 8, 9, 10, 6, 11, 40, 41, 42, 43, 44, 45, 46, 47, 48, 49, 50, 51, 52, 53, 54, 55, 56, 57, 58, 59, 60, 61, 62, 63, 64, 65, 66, 67, 68, 69, 70] (by decide +kernel) (by decide +kernel)
set_option maxRecDepth 20000 in
theorem gX7_wear_X7_noGlove : GoodIn wsX7_wear (wsV RX7 125 RX7 yX7_noGlove wsX7_noGlove) := goodIn_app (goodIn_of _ (by decide +kernel)) ggX7_wear_X7_noGlove
set_option maxRecDepth 20000 in
theorem ggX7_wear_X7_noPerson : GoodIn wsX7_wear wsX7_noPerson := goodIn_r _ [15, 16, 9, 10, 6, 11, 40, 41, 42, 43, 44, 45, 46, 47, 48, 49, 50, 51, 52, 53, 54, 55, 56, 57, 58, 59, 60, 61, 62, 63, 64, 65, 66, 67, 68, 69, 70] (by decide +kernel) (by decide +kernel)
set_option maxRecDepth 20000 in
theorem gX7_wear_X7_noPerson : GoodIn wsX7_wear (wsV RX7 116 RX7 yX7_noPerson wsX7_noPerson) := goodIn_app (goodIn_of _ (by decide +kernel)) ggX7_wear_X7_noPerson
set_option maxRecDepth 20000 in
theorem ggX7_wear_X7_isWorn : GoodIn wsX7_wear wsX7_isWorn := goodIn_r _ [20] (by decide +kernel) (by decide +kernel)
set_option maxRecDepth 20000 in
theorem gX7_wear_X7_isWorn : GoodIn wsX7_wear (wsV RX7 109 RX7 yX7_isWorn wsX7_isWorn) := goodIn_app (goodIn_of _ (by decide +kernel)) ggX7_wear_X7_isWorn
set_option maxRecDepth 20000 in
theorem ggX7_wear_X7_wears : GoodIn wsX7_wear wsX7_wears := goodIn_r _ [24, 8, 40, 41, 42, 43, 44, 45, 46, 47, 48, 49, 50, 51, 52, 53, 54, 55, 56, 57, 58, 59, 60, 61, 62, 63, 64, 65, 66, 67, 68, 69, 70] (by decide +kernel) (by decide +kernel)
set_option maxRecDepth 20000 in
theorem gX7_wear_X7_wears : GoodIn wsX7_wear (wsV RX7 122 RX7 yX7_wears wsX7_wears) := goodIn_app (goodIn_of _ (by decide +kernel)) ggX7_wear_X7_wears
set_option maxRecDepth 20000 in
theorem ggX7_wear_X7_note : GoodIn wsX7_wear wsX7_note := goodIn_r _ [28, 29, 30, 2, 40, 41, 42, 43, 44, 45, 46, 47, 48, 49, 50, 51, 52, 53, 54, 55, 56, 57, 58, 59, 60, 61, 62, 63, 64, 65, 66, 67, 68, 69, 70] (by decide +kernel) (by decide +kernel)
set_option maxRecDepth 20000 in
theorem gX7_wear_X7_note : GoodIn wsX7_wear (wsV RX7 128 RX7 yX7_note wsX7_note) := goodIn_app (goodIn_of _ (by decide +kernel)) ggX7_wear_X7_note
set_option maxRecDepth 20000 in
theorem ggX7_wear_X7_doesOn : GoodIn wsX7_wear wsX7_doesOn := goodIn_r _ [34, 35, 36, 37, 38, 6, 39, 40, 41, 42, 43, 44, 45, 46, 47, 48, 49, 50, 51, 52, 53, 54, 55, 56, 57, 58, 59, 60, 61, 62, 63, 64, 65, 66, 67, 68, 69, 70] (by decide +kernel) (by decide +kernel)
set_option maxRecDepth 20000 in
theorem gX7_wear_X7_doesOn : GoodIn wsX7_wear (wsV RX7 105 RX7 yX7_doesOn wsX7_doesOn) := goodIn_app (goodIn_of _ (by decide +kernel)) ggX7_wear_X7_doesOn
theorem dX7_wear_0 : decode cX7_wear 0 = .ok (.aload_n 0, 1) := by decide +kernel
theorem dX7_wear_1 : decode cX7_wear 1 = .ok (.iconst 0, 1) := by decide +kernel
theorem dX7_wear_2 : decode cX7_wear 2 = .ok (.putfield 50, 3) := by decide +kernel
theorem dX7_wear_5 : decode cX7_wear 5 = .ok (.aload_n 0, 1) := by decide +kernel
theorem dX7_wear_6 : decode cX7_wear 6 = .ok (.iload_n 1, 1) := by decide +kernel
theorem dX7_wear_7 : decode cX7_wear 7 = .ok (.invokevirtual 125, 3) := by decide +kernel
theorem dX7_wear_10 : decode cX7_wear 10 = .ok (.ifCond .ne 11, 3) := by decide +kernel
theorem dX7_wear_13 : decode cX7_wear 13 = .ok (.aload_n 0, 1) := by decide +kernel
theorem dX7_wear_14 : decode cX7_wear 14 = .ok (.iload_n 2, 1) := by decide +kernel
theorem dX7_wear_15 : decode cX7_wear 15 = .ok (.invokevirtual 116, 3) := by decide +kernel
theorem dX7_wear_18 : decode cX7_wear 18 = .ok (.ifCond .eq 5, 3) := by decide +kernel
theorem dX7_wear_21 : decode cX7_wear 21 = .ok (.iconst (-1), 1) := by decide +kernel
theorem dX7_wear_22 : decode cX7_wear 22 = .ok (.ireturn, 1) := by decide +kernel
theorem dX7_wear_23 : decode cX7_wear 23 = .ok (.aload_n 0, 1) := by decide +kernel
theorem dX7_wear_24 : decode cX7_wear 24 = .ok (.aload_n 0, 1) := by decide +kernel
theorem dX7_wear_25 : decode cX7_wear 25 = .ok (.getfield 25, 3) := by decide +kernel
theorem dX7_wear_28 : decode cX7_wear 28 = .ok (.iload_n 1, 1) := by decide +kernel
theorem dX7_wear_29 : decode cX7_wear 29 = .ok (.invokevirtual 109, 3) := by decide +kernel
theorem dX7_wear_32 : decode cX7_wear 32 = .ok (.ifCond .ne 17, 3) := by decide +kernel
theorem dX7_wear_35 : decode cX7_wear 35 = .ok (.aload_n 0, 1) := by decide +kernel
theorem dX7_wear_36 : decode cX7_wear 36 = .ok (.aload_n 0, 1) := by decide +kernel
theorem dX7_wear_37 : decode cX7_wear 37 = .ok (.getfield 25, 3) := by decide +kernel
theorem dX7_wear_40 : decode cX7_wear 40 = .ok (.iload_n 2, 1) := by decide +kernel
theorem dX7_wear_41 : decode cX7_wear 41 = .ok (.invokevirtual 122, 3) := by decide +kernel
theorem dX7_wear_44 : decode cX7_wear 44 = .ok (.bipush (-9), 2) := by decide +kernel
theorem dX7_wear_46 : decode cX7_wear 46 = .ok (.if_icmp .eq 6, 3) := by decide +kernel
theorem dX7_wear_49 : decode cX7_wear 49 = .ok (.bipush (-3), 2) := by decide +kernel
theorem dX7_wear_51 : decode cX7_wear 51 = .ok (.ireturn, 1) := by decide +kernel
theorem dX7_wear_52 : decode cX7_wear 52 = .ok (.aload_n 0, 1) := by decide +kernel
theorem dX7_wear_53 : decode cX7_wear 53 = .ok (.invokevirtual 128, 3) := by decide +kernel
theorem dX7_wear_56 : decode cX7_wear 56 = .ok (.aload_n 0, 1) := by decide +kernel
theorem dX7_wear_57 : decode cX7_wear 57 = .ok (.getfield 25, 3) := by decide +kernel
theorem dX7_wear_60 : decode cX7_wear 60 = .ok (.iconst 5, 1) := by decide +kernel
theorem dX7_wear_61 : decode cX7_wear 61 = .ok (.iload_n 1, 1) := by decide +kernel
theorem dX7_wear_62 : decode cX7_wear 62 = .ok (.imul, 1) := by decide +kernel
theorem dX7_wear_63 : decode cX7_wear 63 = .ok (.iconst 4, 1) := by decide +kernel
theorem dX7_wear_64 : decode cX7_wear 64 = .ok (.iadd, 1) := by decide +kernel
theorem dX7_wear_65 : decode cX7_wear 65 = .ok (.iload_n 2, 1) := by decide +kernel
theorem dX7_wear_66 : decode cX7_wear 66 = .ok (.iastore, 1) := by decide +kernel
theorem dX7_wear_67 : decode cX7_wear 67 = .ok (.aload_n 0, 1) := by decide +kernel
theorem dX7_wear_68 : decode cX7_wear 68 = .ok (.aload_n 0, 1) := by decide +kernel
theorem dX7_wear_69 : decode cX7_wear 69 = .ok (.getfield 25, 3) := by decide +kernel
theorem dX7_wear_72 : decode cX7_wear 72 = .ok (.iload_n 1, 1) := by decide +kernel
theorem dX7_wear_73 : decode cX7_wear 73 = .ok (.iload_n 2, 1) := by decide +kernel
theorem dX7_wear_74 : decode cX7_wear 74 = .ok (.invokevirtual 105, 3) := by decide +kernel
theorem dX7_wear_77 : decode cX7_wear 77 = .ok (.ireturn, 1) := by decide +kernel
set_option maxRecDepth 20000 in
theorem ggX7_takeOff_X7_noGlove : GoodIn wsX7_takeOff wsX7_noGlove := goodIn_r _ [7, 8, 9, 10, 6, 11, 32, 33, 34, 35, 36, 37, 38, 39, 40, 41, 42, 43, 44, 45, 46, 47, 48, 49, 50, 51, 52, 53, 54, 55, 56, 57, 58, 59, 60, 61, 62] (by decide +kernel) (by decide +kernel)
set_option maxRecDepth 20000 in
theorem gX7_takeOff_X7_noGlove : GoodIn wsX7_takeOff (wsV RX7 125 RX7 yX7_noGlove wsX7_noGlove) := goodIn_app (goodIn_of _ (by decide +kernel)) ggX7_takeOff_X7_noGlove
set_option maxRecDepth 20000 in
theorem ggX7_takeOff_X7_isWorn : GoodIn wsX7_takeOff wsX7_isWorn := goodIn_r _ [15] (by decide +kernel) (by decide +kernel)
set_option maxRecDepth 20000 in
theorem gX7_takeOff_X7_isWorn : GoodIn wsX7_takeOff (wsV RX7 109 RX7 yX7_isWorn wsX7_isWorn) := goodIn_app (goodIn_of _ (by decide +kernel)) ggX7_takeOff_X7_isWorn
set_option maxRecDepth 20000 in
theorem ggX7_takeOff_X7_note : GoodIn wsX7_takeOff wsX7_note := goodIn_r _ [19, 20, 21, 2, 32, 33, 34, 35, 36, 37, 38, 39, 40, 41, 42, 43, 44, 45, 46, 47, 48, 49, 50, 51, 52, 53, 54, 55, 56, 57, 58, 59, 60, 61, 62] (by decide +kernel) (by decide +kernel)
set_option maxRecDepth 20000 in
theorem gX7_takeOff_X7_note : GoodIn wsX7_takeOff (wsV RX7 128 RX7 yX7_note wsX7_note) := goodIn_app (goodIn_of _ (by decide +kernel)) ggX7_takeOff_X7_note
set_option maxRecDepth 20000 in
theorem ggX7_takeOff_X7_goOff : GoodIn wsX7_takeOff wsX7_goOff := goodIn_r _ [25, 26, 27, 28, 29, 6, 30, 31, 32, 33, 34, 35, 36, 37, 38, 39, 40, 41, 42, 43, 44, 45, 46, 47, 48, 49, 50, 51, 52, 53, 54, 55, 56, 57, 58, 59, 60, 61, 62] (by decide +kernel) (by decide +kernel)
set_option maxRecDepth 20000 in
theorem gX7_takeOff_X7_goOff : GoodIn wsX7_takeOff (wsV RX7 131 RX7 yX7_goOff wsX7_goOff) := goodIn_app (goodIn_of _ (by decide +kernel)) ggX7_takeOff_X7_goOff
theorem dX7_takeOff_0 : decode cX7_takeOff 0 = .ok (.aload_n 0, 1) := by decide +kernel
theorem dX7_takeOff_1 : decode cX7_takeOff 1 = .ok (.iconst 0, 1) := by decide +kernel
theorem dX7_takeOff_2 : decode cX7_takeOff 2 = .ok (.putfield 50, 3) := by decide +kernel
theorem dX7_takeOff_5 : decode cX7_takeOff 5 = .ok (.aload_n 0, 1) := by decide +kernel
theorem dX7_takeOff_6 : decode cX7_takeOff 6 = .ok (.iload_n 1, 1) := by decide +kernel
theorem dX7_takeOff_7 : decode cX7_takeOff 7 = .ok (.invokevirtual 125, 3) := by decide +kernel
theorem dX7_takeOff_10 : decode cX7_takeOff 10 = .ok (.ifCond .eq 5, 3) := by decide +kernel
theorem dX7_takeOff_13 : decode cX7_takeOff 13 = .ok (.iconst (-1), 1) := by decide +kernel
theorem dX7_takeOff_14 : decode cX7_takeOff 14 = .ok (.ireturn, 1) := by decide +kernel
theorem dX7_takeOff_15 : decode cX7_takeOff 15 = .ok (.aload_n 0, 1) := by decide +kernel
theorem dX7_takeOff_16 : decode cX7_takeOff 16 = .ok (.aload_n 0, 1) := by decide +kernel
theorem dX7_takeOff_17 : decode cX7_takeOff 17 = .ok (.getfield 25, 3) := by decide +kernel
theorem dX7_takeOff_20 : decode cX7_takeOff 20 = .ok (.iload_n 1, 1) := by decide +kernel
theorem dX7_takeOff_21 : decode cX7_takeOff 21 = .ok (.invokevirtual 109, 3) := by decide +kernel
theorem dX7_takeOff_24 : decode cX7_takeOff 24 = .ok (.ifCond .ne 6, 3) := by decide +kernel
theorem dX7_takeOff_27 : decode cX7_takeOff 27 = .ok (.bipush (-3), 2) := by decide +kernel
theorem dX7_takeOff_29 : decode cX7_takeOff 29 = .ok (.ireturn, 1) := by decide +kernel
theorem dX7_takeOff_30 : decode cX7_takeOff 30 = .ok (.aload_n 0, 1) := by decide +kernel
theorem dX7_takeOff_31 : decode cX7_takeOff 31 = .ok (.invokevirtual 128, 3) := by decide +kernel
theorem dX7_takeOff_34 : decode cX7_takeOff 34 = .ok (.aload_n 0, 1) := by decide +kernel
theorem dX7_takeOff_35 : decode cX7_takeOff 35 = .ok (.aload_n 0, 1) := by decide +kernel
theorem dX7_takeOff_36 : decode cX7_takeOff 36 = .ok (.getfield 25, 3) := by decide +kernel
theorem dX7_takeOff_39 : decode cX7_takeOff 39 = .ok (.iload_n 1, 1) := by decide +kernel
theorem dX7_takeOff_40 : decode cX7_takeOff 40 = .ok (.invokevirtual 131, 3) := by decide +kernel
theorem dX7_takeOff_43 : decode cX7_takeOff 43 = .ok (.aload_n 0, 1) := by decide +kernel
theorem dX7_takeOff_44 : decode cX7_takeOff 44 = .ok (.getfield 25, 3) := by decide +kernel
theorem dX7_takeOff_47 : decode cX7_takeOff 47 = .ok (.iconst 5, 1) := by decide +kernel
theorem dX7_takeOff_48 : decode cX7_takeOff 48 = .ok (.iload_n 1, 1) := by decide +kernel
theorem dX7_takeOff_49 : decode cX7_takeOff 49 = .ok (.imul, 1) := by decide +kernel
theorem dX7_takeOff_50 : decode cX7_takeOff 50 = .ok (.iaload, 1) := by decide +kernel
theorem dX7_takeOff_51 : decode cX7_takeOff 51 = .ok (.ireturn, 1) := by decide +kernel
set_option maxRecDepth 20000 in
theorem ggX7_wash_X7_noGlove : GoodIn wsX7_wash wsX7_noGlove := goodIn_r _ [7, 8, 9, 10, 6, 11, 25, 26, 27, 28, 29, 30, 31, 32, 33, 34, 35, 36, 37, 38, 39, 40, 41, 42, 43, 44, 45, 46, 47, 48, 49, 50, 51, 52, 53, 54, 55] (by decide +kernel) (by decide +kernel)
set_option maxRecDepth 20000 in
theorem gX7_wash_X7_noGlove : GoodIn wsX7_wash (wsV RX7 125 RX7 yX7_noGlove wsX7_noGlove) := goodIn_app (goodIn_of _ (by decide +kernel)) ggX7_wash_X7_noGlove
set_option maxRecDepth 20000 in
theorem ggX7_wash_X7_isWorn : GoodIn wsX7_wash wsX7_isWorn := goodIn_r _ [15] (by decide +kernel) (by decide +kernel)
set_option maxRecDepth 20000 in
theorem gX7_wash_X7_isWorn : GoodIn wsX7_wash (wsV RX7 109 RX7 yX7_isWorn wsX7_isWorn) := goodIn_app (goodIn_of _ (by decide +kernel)) ggX7_wash_X7_isWorn
set_option maxRecDepth 20000 in
theorem ggX7_wash_X7_note : GoodIn wsX7_wash wsX7_note := goodIn_r _ [19, 20, 21, 2, 25, 26, 27, 28, 29, 30, 31, 32, 33, 34, 35, 36, 37, 38, 39, 40, 41, 42, 43, 44, 45, 46, 47, 48, 49, 50, 51, 52, 53, 54, 55] (by decide +kernel) (by decide +kernel)
set_option maxRecDepth 20000 in
theorem gX7_wash_X7_note : GoodIn wsX7_wash (wsV RX7 128 RX7 yX7_note wsX7_note) := goodIn_app (goodIn_of _ (by decide +kernel)) ggX7_wash_X7_note
set_option maxRecDepth 20000 in
theorem ggX7_wash_X7_lastOf : GoodIn wsX7_wash wsX7_lastOf := goodIn_r _ [24] (by decide +kernel) (by decide +kernel)
set_option maxRecDepth 20000 in
theorem gX7_wash_X7_lastOf : GoodIn wsX7_wash (va_wsS RX7 97 yX7_lastOf wsX7_lastOf) := goodIn_app (goodIn_of _ (by decide +kernel)) ggX7_wash_X7_lastOf
theorem dX7_wash_0 : decode cX7_wash 0 = .ok (.aload_n 0, 1) := by decide +kernel
theorem dX7_wash_1 : decode cX7_wash 1 = .ok (.iconst 0, 1) := by decide +kernel
theorem dX7_wash_2 : decode cX7_wash 2 = .ok (.putfield 50, 3) := by decide +kernel
theorem dX7_wash_5 : decode cX7_wash 5 = .ok (.aload_n 0, 1) := by decide +kernel
theorem dX7_wash_6 : decode cX7_wash 6 = .ok (.iload_n 1, 1) := by decide +kernel
theorem dX7_wash_7 : decode cX7_wash 7 = .ok (.invokevirtual 125, 3) := by decide +kernel
theorem dX7_wash_10 : decode cX7_wash 10 = .ok (.ifCond .eq 5, 3) := by decide +kernel
theorem dX7_wash_13 : decode cX7_wash 13 = .ok (.iconst (-1), 1) := by decide +kernel
theorem dX7_wash_14 : decode cX7_wash 14 = .ok (.ireturn, 1) := by decide +kernel
theorem dX7_wash_15 : decode cX7_wash 15 = .ok (.aload_n 0, 1) := by decide +kernel
theorem dX7_wash_16 : decode cX7_wash 16 = .ok (.aload_n 0, 1) := by decide +kernel
theorem dX7_wash_17 : decode cX7_wash 17 = .ok (.getfield 25, 3) := by decide +kernel
theorem dX7_wash_20 : decode cX7_wash 20 = .ok (.iload_n 1, 1) := by decide +kernel
theorem dX7_wash_21 : decode cX7_wash 21 = .ok (.invokevirtual 109, 3) := by decide +kernel
theorem dX7_wash_24 : decode cX7_wash 24 = .ok (.ifCond .ne 14, 3) := by decide +kernel
theorem dX7_wash_27 : decode cX7_wash 27 = .ok (.aload_n 0, 1) := by decide +kernel
theorem dX7_wash_28 : decode cX7_wash 28 = .ok (.getfield 25, 3) := by decide +kernel
theorem dX7_wash_31 : decode cX7_wash 31 = .ok (.iconst 5, 1) := by decide +kernel
theorem dX7_wash_32 : decode cX7_wash 32 = .ok (.iload_n 1, 1) := by decide +kernel
theorem dX7_wash_33 : decode cX7_wash 33 = .ok (.imul, 1) := by decide +kernel
theorem dX7_wash_34 : decode cX7_wash 34 = .ok (.iaload, 1) := by decide +kernel
theorem dX7_wash_35 : decode cX7_wash 35 = .ok (.ifCond .ne 6, 3) := by decide +kernel
theorem dX7_wash_38 : decode cX7_wash 38 = .ok (.bipush (-3), 2) := by decide +kernel
theorem dX7_wash_40 : decode cX7_wash 40 = .ok (.ireturn, 1) := by decide +kernel
theorem dX7_wash_41 : decode cX7_wash 41 = .ok (.aload_n 0, 1) := by decide +kernel
theorem dX7_wash_42 : decode cX7_wash 42 = .ok (.invokevirtual 128, 3) := by decide +kernel
theorem dX7_wash_45 : decode cX7_wash 45 = .ok (.aload_n 0, 1) := by decide +kernel
theorem dX7_wash_46 : decode cX7_wash 46 = .ok (.getfield 25, 3) := by decide +kernel
theorem dX7_wash_49 : decode cX7_wash 49 = .ok (.iload_n 1, 1) := by decide +kernel
theorem dX7_wash_50 : decode cX7_wash 50 = .ok (.invokestatic 97, 3) := by decide +kernel
theorem dX7_wash_53 : decode cX7_wash 53 = .ok (.istore_n 2, 1) := by decide +kernel
theorem dX7_wash_54 : decode cX7_wash 54 = .ok (.aload_n 0, 1) := by decide +kernel
theorem dX7_wash_55 : decode cX7_wash 55 = .ok (.getfield 25, 3) := by decide +kernel
theorem dX7_wash_58 : decode cX7_wash 58 = .ok (.iconst 5, 1) := by decide +kernel
theorem dX7_wash_59 : decode cX7_wash 59 = .ok (.iload_n 1, 1) := by decide +kernel
theorem dX7_wash_60 : decode cX7_wash 60 = .ok (.imul, 1) := by decide +kernel
theorem dX7_wash_61 : decode cX7_wash 61 = .ok (.dup2, 1) := by decide +kernel
theorem dX7_wash_62 : decode cX7_wash 62 = .ok (.iaload, 1) := by decide +kernel
theorem dX7_wash_63 : decode cX7_wash 63 = .ok (.iconst 1, 1) := by decide +kernel
theorem dX7_wash_64 : decode cX7_wash 64 = .ok (.isub, 1) := by decide +kernel
theorem dX7_wash_65 : decode cX7_wash 65 = .ok (.iastore, 1) := by decide +kernel
theorem dX7_wash_66 : decode cX7_wash 66 = .ok (.iload_n 2, 1) := by decide +kernel
theorem dX7_wash_67 : decode cX7_wash 67 = .ok (.ireturn, 1) := by decide +kernel
set_option maxRecDepth 20000 in
theorem ggX7_day_X7_note : GoodIn wsX7_day wsX7_note := goodIn_r _ [8, 9, 10, 3, 25, 26, 27, 28, 29, 30, 31, 32, 33, 34, 35, 36, 37, 38, 39, 40, 41, 42, 43, 44, 45, 46, 47, 48, 49, 50, 51, 52, 53, 54, 55] (by decide +kernel) (by decide +kernel)
set_option maxRecDepth 20000 in
theorem gX7_day_X7_note : GoodIn wsX7_day (wsV RX7 128 RX7 yX7_note wsX7_note) := goodIn_app (goodIn_of _ (by decide +kernel)) ggX7_day_X7_note
set_option maxRecDepth 20000 in
theorem ggX7_day_X7_isWorn : GoodIn wsX7_day wsX7_isWorn := goodIn_r _ [14] (by decide +kernel) (by decide +kernel)
set_option maxRecDepth 20000 in
theorem gX7_day_X7_isWorn : GoodIn wsX7_day (wsV RX7 109 RX7 yX7_isWorn wsX7_isWorn) := goodIn_app (goodIn_of _ (by decide +kernel)) ggX7_day_X7_isWorn
set_option maxRecDepth 20000 in
theorem ggX7_day_X7_goOff : GoodIn wsX7_day wsX7_goOff := goodIn_r _ [18, 19, 20, 21, 22, 7, 23, 24, 25, 26, 27, 28, 29, 30, 31, 32, 33, 34, 35, 36, 37, 38, 39, 40, 41, 42, 43, 44, 45, 46, 47, 48, 49, 50, 51, 52, 53, 54, 55] (by decide +kernel) (by decide +kernel)
set_option maxRecDepth 20000 in
theorem gX7_day_X7_goOff : GoodIn wsX7_day (wsV RX7 131 RX7 yX7_goOff wsX7_goOff) := goodIn_app (goodIn_of _ (by decide +kernel)) ggX7_day_X7_goOff
theorem dX7_day_0 : decode cX7_day 0 = .ok (.aload_n 0, 1) := by decide +kernel
theorem dX7_day_1 : decode cX7_day 1 = .ok (.iconst 0, 1) := by decide +kernel
theorem dX7_day_2 : decode cX7_day 2 = .ok (.putfield 50, 3) := by decide +kernel
theorem dX7_day_5 : decode cX7_day 5 = .ok (.aload_n 0, 1) := by decide +kernel
theorem dX7_day_6 : decode cX7_day 6 = .ok (.invokevirtual 128, 3) := by decide +kernel
theorem dX7_day_9 : decode cX7_day 9 = .ok (.iconst 0, 1) := by decide +kernel
theorem dX7_day_10 : decode cX7_day 10 = .ok (.istore_n 1, 1) := by decide +kernel
theorem dX7_day_11 : decode cX7_day 11 = .ok (.iconst 0, 1) := by decide +kernel
theorem dX7_day_12 : decode cX7_day 12 = .ok (.istore_n 2, 1) := by decide +kernel
theorem dX7_day_13 : decode cX7_day 13 = .ok (.iload_n 2, 1) := by decide +kernel
theorem dX7_day_14 : decode cX7_day 14 = .ok (.aload_n 0, 1) := by decide +kernel
theorem dX7_day_15 : decode cX7_day 15 = .ok (.getfield 61, 3) := by decide +kernel
theorem dX7_day_18 : decode cX7_day 18 = .ok (.if_icmp .ge 33, 3) := by decide +kernel
theorem dX7_day_21 : decode cX7_day 21 = .ok (.aload_n 0, 1) := by decide +kernel
theorem dX7_day_22 : decode cX7_day 22 = .ok (.aload_n 0, 1) := by decide +kernel
theorem dX7_day_23 : decode cX7_day 23 = .ok (.getfield 25, 3) := by decide +kernel
theorem dX7_day_26 : decode cX7_day 26 = .ok (.iload_n 2, 1) := by decide +kernel
theorem dX7_day_27 : decode cX7_day 27 = .ok (.invokevirtual 109, 3) := by decide +kernel
theorem dX7_day_30 : decode cX7_day 30 = .ok (.ifCond .eq 15, 3) := by decide +kernel
theorem dX7_day_33 : decode cX7_day 33 = .ok (.aload_n 0, 1) := by decide +kernel
theorem dX7_day_34 : decode cX7_day 34 = .ok (.aload_n 0, 1) := by decide +kernel
theorem dX7_day_35 : decode cX7_day 35 = .ok (.getfield 25, 3) := by decide +kernel
theorem dX7_day_38 : decode cX7_day 38 = .ok (.iload_n 2, 1) := by decide +kernel
theorem dX7_day_39 : decode cX7_day 39 = .ok (.invokevirtual 131, 3) := by decide +kernel
theorem dX7_day_42 : decode cX7_day 42 = .ok (.iinc 1 1, 3) := by decide +kernel
theorem dX7_day_45 : decode cX7_day 45 = .ok (.iinc 2 1, 3) := by decide +kernel
theorem dX7_day_48 : decode cX7_day 48 = .ok (.goto (-35), 3) := by decide +kernel
theorem dX7_day_51 : decode cX7_day 51 = .ok (.aload_n 0, 1) := by decide +kernel
theorem dX7_day_52 : decode cX7_day 52 = .ok (.getfield 25, 3) := by decide +kernel
theorem dX7_day_55 : decode cX7_day 55 = .ok (.bipush 20, 2) := by decide +kernel
theorem dX7_day_57 : decode cX7_day 57 = .ok (.dup2, 1) := by decide +kernel
theorem dX7_day_58 : decode cX7_day 58 = .ok (.iaload, 1) := by decide +kernel
theorem dX7_day_59 : decode cX7_day 59 = .ok (.iconst 1, 1) := by decide +kernel
theorem dX7_day_60 : decode cX7_day 60 = .ok (.iadd, 1) := by decide +kernel
theorem dX7_day_61 : decode cX7_day 61 = .ok (.iastore, 1) := by decide +kernel
theorem dX7_day_62 : decode cX7_day 62 = .ok (.iload_n 1, 1) := by decide +kernel
theorem dX7_day_63 : decode cX7_day 63 = .ok (.ireturn, 1) := by decide +kernel
theorem dX7_undo_0 : decode cX7_undo 0 = .ok (.aload_n 0, 1) := by decide +kernel
theorem dX7_undo_1 : decode cX7_undo 1 = .ok (.iconst 0, 1) := by decide +kernel
theorem dX7_undo_2 : decode cX7_undo 2 = .ok (.putfield 50, 3) := by decide +kernel
theorem dX7_undo_5 : decode cX7_undo 5 = .ok (.aload_n 0, 1) := by decide +kernel
theorem dX7_undo_6 : decode cX7_undo 6 = .ok (.getfield 94, 3) := by decide +kernel
theorem dX7_undo_9 : decode cX7_undo 9 = .ok (.ifCond .ne 6, 3) := by decide +kernel
theorem dX7_undo_12 : decode cX7_undo 12 = .ok (.bipush (-3), 2) := by decide +kernel
theorem dX7_undo_14 : decode cX7_undo 14 = .ok (.ireturn, 1) := by decide +kernel
theorem dX7_undo_15 : decode cX7_undo 15 = .ok (.aload_n 0, 1) := by decide +kernel
theorem dX7_undo_16 : decode cX7_undo 16 = .ok (.dup, 1) := by decide +kernel
theorem dX7_undo_17 : decode cX7_undo 17 = .ok (.getfield 94, 3) := by decide +kernel
theorem dX7_undo_20 : decode cX7_undo 20 = .ok (.iconst 1, 1) := by decide +kernel
theorem dX7_undo_21 : decode cX7_undo 21 = .ok (.isub, 1) := by decide +kernel
theorem dX7_undo_22 : decode cX7_undo 22 = .ok (.putfield 94, 3) := by decide +kernel
theorem dX7_undo_25 : decode cX7_undo 25 = .ok (.iconst 0, 1) := by decide +kernel
theorem dX7_undo_26 : decode cX7_undo 26 = .ok (.istore_n 1, 1) := by decide +kernel
theorem dX7_undo_27 : decode cX7_undo 27 = .ok (.iload_n 1, 1) := by decide +kernel
theorem dX7_undo_28 : decode cX7_undo 28 = .ok (.bipush 21, 2) := by decide +kernel
theorem dX7_undo_30 : decode cX7_undo 30 = .ok (.if_icmp .ge 29, 3) := by decide +kernel
theorem dX7_undo_33 : decode cX7_undo 33 = .ok (.aload_n 0, 1) := by decide +kernel
theorem dX7_undo_34 : decode cX7_undo 34 = .ok (.getfield 25, 3) := by decide +kernel
theorem dX7_undo_37 : decode cX7_undo 37 = .ok (.iload_n 1, 1) := by decide +kernel
theorem dX7_undo_38 : decode cX7_undo 38 = .ok (.aload_n 0, 1) := by decide +kernel
theorem dX7_undo_39 : decode cX7_undo 39 = .ok (.getfield 31, 3) := by decide +kernel
theorem dX7_undo_42 : decode cX7_undo 42 = .ok (.bipush 21, 2) := by decide +kernel
theorem dX7_undo_44 : decode cX7_undo 44 = .ok (.aload_n 0, 1) := by decide +kernel
theorem dX7_undo_45 : decode cX7_undo 45 = .ok (.getfield 94, 3) := by decide +kernel
theorem dX7_undo_48 : decode cX7_undo 48 = .ok (.imul, 1) := by decide +kernel
theorem dX7_undo_49 : decode cX7_undo 49 = .ok (.iload_n 1, 1) := by decide +kernel
theorem dX7_undo_50 : decode cX7_undo 50 = .ok (.iadd, 1) := by decide +kernel
theorem dX7_undo_51 : decode cX7_undo 51 = .ok (.iaload, 1) := by decide +kernel
theorem dX7_undo_52 : decode cX7_undo 52 = .ok (.iastore, 1) := by decide +kernel
theorem dX7_undo_53 : decode cX7_undo 53 = .ok (.iinc 1 1, 3) := by decide +kernel
theorem dX7_undo_56 : decode cX7_undo 56 = .ok (.goto (-29), 3) := by decide +kernel
theorem dX7_undo_59 : decode cX7_undo 59 = .ok (.aload_n 0, 1) := by decide +kernel
theorem dX7_undo_60 : decode cX7_undo 60 = .ok (.getfield 94, 3) := by decide +kernel
theorem dX7_undo_63 : decode cX7_undo 63 = .ok (.ireturn, 1) := by decide +kernel
theorem dX7_begin_0 : decode cX7_begin 0 = .ok (.iconst 0, 1) := by decide +kernel
theorem dX7_begin_1 : decode cX7_begin 1 = .ok (.istore_n 1, 1) := by decide +kernel
theorem dX7_begin_2 : decode cX7_begin 2 = .ok (.iload_n 1, 1) := by decide +kernel
theorem dX7_begin_3 : decode cX7_begin 3 = .ok (.bipush 21, 2) := by decide +kernel
theorem dX7_begin_5 : decode cX7_begin 5 = .ok (.if_icmp .ge 21, 3) := by decide +kernel
theorem dX7_begin_8 : decode cX7_begin 8 = .ok (.aload_n 0, 1) := by decide +kernel
theorem dX7_begin_9 : decode cX7_begin 9 = .ok (.getfield 28, 3) := by decide +kernel
theorem dX7_begin_12 : decode cX7_begin 12 = .ok (.iload_n 1, 1) := by decide +kernel
theorem dX7_begin_13 : decode cX7_begin 13 = .ok (.aload_n 0, 1) := by decide +kernel
theorem dX7_begin_14 : decode cX7_begin 14 = .ok (.getfield 25, 3) := by decide +kernel
theorem dX7_begin_17 : decode cX7_begin 17 = .ok (.iload_n 1, 1) := by decide +kernel
theorem dX7_begin_18 : decode cX7_begin 18 = .ok (.iaload, 1) := by decide +kernel
theorem dX7_begin_19 : decode cX7_begin 19 = .ok (.iastore, 1) := by decide +kernel
theorem dX7_begin_20 : decode cX7_begin 20 = .ok (.iinc 1 1, 3) := by decide +kernel
theorem dX7_begin_23 : decode cX7_begin 23 = .ok (.goto (-21), 3) := by decide +kernel
theorem dX7_begin_26 : decode cX7_begin 26 = .ok (.return_, 1) := by decide +kernel
theorem dX7_power_0 : decode cX7_power 0 = .ok (.iconst 1, 1) := by decide +kernel
theorem dX7_power_1 : decode cX7_power 1 = .ok (.istore_n 2, 1) := by decide +kernel
theorem dX7_power_2 : decode cX7_power 2 = .ok (.iconst 0, 1) := by decide +kernel
theorem dX7_power_3 : decode cX7_power 3 = .ok (.istore_n 3, 1) := by decide +kernel
theorem dX7_power_4 : decode cX7_power 4 = .ok (.iload_n 3, 1) := by decide +kernel
theorem dX7_power_5 : decode cX7_power 5 = .ok (.iload_n 1, 1) := by decide +kernel
theorem dX7_power_6 : decode cX7_power 6 = .ok (.if_icmp .ge 13, 3) := by decide +kernel
theorem dX7_power_9 : decode cX7_power 9 = .ok (.iload_n 2, 1) := by decide +kernel
theorem dX7_power_10 : decode cX7_power 10 = .ok (.iload_n 0, 1) := by decide +kernel
theorem dX7_power_11 : decode cX7_power 11 = .ok (.imul, 1) := by decide +kernel
theorem dX7_power_12 : decode cX7_power 12 = .ok (.istore_n 2, 1) := by decide +kernel
theorem dX7_power_13 : decode cX7_power 13 = .ok (.iinc 3 1, 3) := by decide +kernel
theorem dX7_power_16 : decode cX7_power 16 = .ok (.goto (-12), 3) := by decide +kernel
theorem dX7_power_19 : decode cX7_power 19 = .ok (.iload_n 2, 1) := by decide +kernel
theorem dX7_power_20 : decode cX7_power 20 = .ok (.ireturn, 1) := by decide +kernel
set_option maxRecDepth 20000 in
theorem ggX7_doesBy_X7_begin : GoodIn wsX7_doesBy wsX7_begin := goodIn_r _ [6, 1, 7, 28, 29, 30, 31, 32, 33, 34, 35, 36, 37, 38, 39, 40, 41, 42, 43, 44, 45, 46, 47, 48, 49, 50, 51, 52, 53, 54, 55, 56, 57, 58] (by decide +kernel) (by decide +kernel)
set_option maxRecDepth 20000 in
theorem gX7_doesBy_X7_begin : GoodIn wsX7_doesBy (wsV RX7 135 RX7 yX7_begin wsX7_begin) := goodIn_app (goodIn_of _ (by decide +kernel)) ggX7_doesBy_X7_begin
set_option maxRecDepth 20000 in
theorem ggX7_doesBy_X7_power : GoodIn wsX7_doesBy wsX7_power := goodIn_r _ [10] (by decide +kernel) (by decide +kernel)
set_option maxRecDepth 20000 in
theorem gX7_doesBy_X7_power : GoodIn wsX7_doesBy (va_wsS RX7 138 yX7_power wsX7_power) := goodIn_app (goodIn_of _ (by decide +kernel)) ggX7_doesBy_X7_power
set_option maxRecDepth 20000 in
theorem ggX7_doesBy_X7_goHand : GoodIn wsX7_doesBy wsX7_goHand := goodIn_r _ [14, 15, 16, 17, 18, 5, 19, 20, 21, 22, 23, 24, 25, 26, 27, 28, 29, 30, 31, 32, 33, 34, 35, 36, 37, 38, 39, 40, 41, 42, 43, 44, 45, 46, 47, 48, 49, 50, 51, 52, 53, 54, 55, 56, 57, 58] (by decide +kernel) (by decide +kernel)
set_option maxRecDepth 20000 in
theorem gX7_doesBy_X7_goHand : GoodIn wsX7_doesBy (wsV RX7 141 RX7 yX7_goHand wsX7_goHand) := goodIn_app (goodIn_of _ (by decide +kernel)) ggX7_doesBy_X7_goHand
theorem dX7_doesBy_0 : decode cX7_doesBy 0 = .ok (.aload_n 0, 1) := by decide +kernel
theorem dX7_doesBy_1 : decode cX7_doesBy 1 = .ok (.invokevirtual 135, 3) := by decide +kernel
theorem dX7_doesBy_4 : decode cX7_doesBy 4 = .ok (.iconst 0, 1) := by decide +kernel
theorem dX7_doesBy_5 : decode cX7_doesBy 5 = .ok (.istore 4, 2) := by decide +kernel
theorem dX7_doesBy_7 : decode cX7_doesBy 7 = .ok (.iload_n 2, 1) := by decide +kernel
theorem dX7_doesBy_8 : decode cX7_doesBy 8 = .ok (.iconst 1, 1) := by decide +kernel
theorem dX7_doesBy_9 : decode cX7_doesBy 9 = .ok (.isub, 1) := by decide +kernel
theorem dX7_doesBy_10 : decode cX7_doesBy 10 = .ok (.istore 5, 2) := by decide +kernel
theorem dX7_doesBy_12 : decode cX7_doesBy 12 = .ok (.iload 5, 2) := by decide +kernel
theorem dX7_doesBy_14 : decode cX7_doesBy 14 = .ok (.ifCond .lt 34, 3) := by decide +kernel
theorem dX7_doesBy_17 : decode cX7_doesBy 17 = .ok (.aload_n 0, 1) := by decide +kernel
theorem dX7_doesBy_18 : decode cX7_doesBy 18 = .ok (.aload_n 0, 1) := by decide +kernel
theorem dX7_doesBy_19 : decode cX7_doesBy 19 = .ok (.getfield 28, 3) := by decide +kernel
theorem dX7_doesBy_22 : decode cX7_doesBy 22 = .ok (.iload_n 1, 1) := by decide +kernel
theorem dX7_doesBy_23 : decode cX7_doesBy 23 = .ok (.iload_n 3, 1) := by decide +kernel
theorem dX7_doesBy_24 : decode cX7_doesBy 24 = .ok (.bipush 10, 2) := by decide +kernel
theorem dX7_doesBy_26 : decode cX7_doesBy 26 = .ok (.iload 5, 2) := by decide +kernel
theorem dX7_doesBy_28 : decode cX7_doesBy 28 = .ok (.invokestatic 138, 3) := by decide +kernel
theorem dX7_doesBy_31 : decode cX7_doesBy 31 = .ok (.idiv, 1) := by decide +kernel
theorem dX7_doesBy_32 : decode cX7_doesBy 32 = .ok (.bipush 10, 2) := by decide +kernel
theorem dX7_doesBy_34 : decode cX7_doesBy 34 = .ok (.irem, 1) := by decide +kernel
theorem dX7_doesBy_35 : decode cX7_doesBy 35 = .ok (.iconst 1, 1) := by decide +kernel
theorem dX7_doesBy_36 : decode cX7_doesBy 36 = .ok (.isub, 1) := by decide +kernel
theorem dX7_doesBy_37 : decode cX7_doesBy 37 = .ok (.invokevirtual 141, 3) := by decide +kernel
theorem dX7_doesBy_40 : decode cX7_doesBy 40 = .ok (.istore 4, 2) := by decide +kernel
theorem dX7_doesBy_42 : decode cX7_doesBy 42 = .ok (.iinc 5 (-1), 3) := by decide +kernel
theorem dX7_doesBy_45 : decode cX7_doesBy 45 = .ok (.goto (-33), 3) := by decide +kernel
theorem dX7_doesBy_48 : decode cX7_doesBy 48 = .ok (.iload 4, 2) := by decide +kernel
theorem dX7_doesBy_50 : decode cX7_doesBy 50 = .ok (.ireturn, 1) := by decide +kernel
set_option maxRecDepth 20000 in
theorem ggX7_noRow_X7_in : GoodIn wsX7_noRow wsX7_in := goodIn_r _ [6] (by decide +kernel) (by decide +kernel)
set_option maxRecDepth 20000 in
theorem gX7_noRow_X7_in : GoodIn wsX7_noRow (va_wsS RX7 57 yX7_in wsX7_in) := goodIn_app (goodIn_of _ (by decide +kernel)) ggX7_noRow_X7_in
set_option maxRecDepth 20000 in
theorem ggX7_noRow_X7_power : GoodIn wsX7_noRow wsX7_power := goodIn_r _ [9] (by decide +kernel) (by decide +kernel)
set_option maxRecDepth 20000 in
theorem gX7_noRow_X7_power : GoodIn wsX7_noRow (va_wsS RX7 138 yX7_power wsX7_power) := goodIn_app (goodIn_of _ (by decide +kernel)) ggX7_noRow_X7_power
theorem dX7_noRow_0 : decode cX7_noRow 0 = .ok (.iload_n 1, 1) := by decide +kernel
theorem dX7_noRow_1 : decode cX7_noRow 1 = .ok (.i2l, 1) := by decide +kernel
theorem dX7_noRow_2 : decode cX7_noRow 2 = .ok (.lconst 1, 1) := by decide +kernel
theorem dX7_noRow_3 : decode cX7_noRow 3 = .ok (.ldc2_w 144, 3) := by decide +kernel
theorem dX7_noRow_6 : decode cX7_noRow 6 = .ok (.invokestatic 57, 3) := by decide +kernel
theorem dX7_noRow_9 : decode cX7_noRow 9 = .ok (.ifCond .eq 21, 3) := by decide +kernel
theorem dX7_noRow_12 : decode cX7_noRow 12 = .ok (.iload_n 2, 1) := by decide +kernel
theorem dX7_noRow_13 : decode cX7_noRow 13 = .ok (.i2l, 1) := by decide +kernel
theorem dX7_noRow_14 : decode cX7_noRow 14 = .ok (.lconst 0, 1) := by decide +kernel
theorem dX7_noRow_15 : decode cX7_noRow 15 = .ok (.bipush 10, 2) := by decide +kernel
theorem dX7_noRow_17 : decode cX7_noRow 17 = .ok (.iload_n 1, 1) := by decide +kernel
theorem dX7_noRow_18 : decode cX7_noRow 18 = .ok (.invokestatic 138, 3) := by decide +kernel
theorem dX7_noRow_21 : decode cX7_noRow 21 = .ok (.iconst 1, 1) := by decide +kernel
theorem dX7_noRow_22 : decode cX7_noRow 22 = .ok (.isub, 1) := by decide +kernel
theorem dX7_noRow_23 : decode cX7_noRow 23 = .ok (.i2l, 1) := by decide +kernel
theorem dX7_noRow_24 : decode cX7_noRow 24 = .ok (.invokestatic 57, 3) := by decide +kernel
theorem dX7_noRow_27 : decode cX7_noRow 27 = .ok (.ifCond .ne 5, 3) := by decide +kernel
theorem dX7_noRow_30 : decode cX7_noRow 30 = .ok (.iconst 1, 1) := by decide +kernel
theorem dX7_noRow_31 : decode cX7_noRow 31 = .ok (.ireturn, 1) := by decide +kernel
theorem dX7_noRow_32 : decode cX7_noRow 32 = .ok (.iconst 1, 1) := by decide +kernel
theorem dX7_noRow_33 : decode cX7_noRow 33 = .ok (.istore_n 3, 1) := by decide +kernel
theorem dX7_noRow_34 : decode cX7_noRow 34 = .ok (.iconst 0, 1) := by decide +kernel
theorem dX7_noRow_35 : decode cX7_noRow 35 = .ok (.istore 4, 2) := by decide +kernel
theorem dX7_noRow_37 : decode cX7_noRow 37 = .ok (.iload 4, 2) := by decide +kernel
theorem dX7_noRow_39 : decode cX7_noRow 39 = .ok (.iload_n 1, 1) := by decide +kernel
theorem dX7_noRow_40 : decode cX7_noRow 40 = .ok (.if_icmp .ge 44, 3) := by decide +kernel
theorem dX7_noRow_43 : decode cX7_noRow 43 = .ok (.iload_n 3, 1) := by decide +kernel
theorem dX7_noRow_44 : decode cX7_noRow 44 = .ok (.ifCond .eq 32, 3) := by decide +kernel
theorem dX7_noRow_47 : decode cX7_noRow 47 = .ok (.iload_n 2, 1) := by decide +kernel
theorem dX7_noRow_48 : decode cX7_noRow 48 = .ok (.bipush 10, 2) := by decide +kernel
theorem dX7_noRow_50 : decode cX7_noRow 50 = .ok (.iload 4, 2) := by decide +kernel
theorem dX7_noRow_52 : decode cX7_noRow 52 = .ok (.invokestatic 138, 3) := by decide +kernel
theorem dX7_noRow_55 : decode cX7_noRow 55 = .ok (.idiv, 1) := by decide +kernel
theorem dX7_noRow_56 : decode cX7_noRow 56 = .ok (.bipush 10, 2) := by decide +kernel
theorem dX7_noRow_58 : decode cX7_noRow 58 = .ok (.irem, 1) := by decide +kernel
theorem dX7_noRow_59 : decode cX7_noRow 59 = .ok (.i2l, 1) := by decide +kernel
theorem dX7_noRow_60 : decode cX7_noRow 60 = .ok (.lconst 1, 1) := by decide +kernel
theorem dX7_noRow_61 : decode cX7_noRow 61 = .ok (.aload_n 0, 1) := by decide +kernel
theorem dX7_noRow_62 : decode cX7_noRow 62 = .ok (.getfield 54, 3) := by decide +kernel
theorem dX7_noRow_65 : decode cX7_noRow 65 = .ok (.i2l, 1) := by decide +kernel
theorem dX7_noRow_66 : decode cX7_noRow 66 = .ok (.invokestatic 57, 3) := by decide +kernel
theorem dX7_noRow_69 : decode cX7_noRow 69 = .ok (.ifCond .eq 7, 3) := by decide +kernel
theorem dX7_noRow_72 : decode cX7_noRow 72 = .ok (.iconst 1, 1) := by decide +kernel
theorem dX7_noRow_73 : decode cX7_noRow 73 = .ok (.goto 4, 3) := by decide +kernel
theorem dX7_noRow_76 : decode cX7_noRow 76 = .ok (.iconst 0, 1) := by decide +kernel
theorem dX7_noRow_77 : decode cX7_noRow 77 = .ok (.istore_n 3, 1) := by decide +kernel
theorem dX7_noRow_78 : decode cX7_noRow 78 = .ok (.iinc 4 1, 3) := by decide +kernel
theorem dX7_noRow_81 : decode cX7_noRow 81 = .ok (.goto (-44), 3) := by decide +kernel
theorem dX7_noRow_84 : decode cX7_noRow 84 = .ok (.iload_n 3, 1) := by decide +kernel
theorem dX7_noRow_85 : decode cX7_noRow 85 = .ok (.ifCond .ne 7, 3) := by decide +kernel
theorem dX7_noRow_88 : decode cX7_noRow 88 = .ok (.iconst 1, 1) := by decide +kernel
theorem dX7_noRow_89 : decode cX7_noRow 89 = .ok (.goto 4, 3) := by decide +kernel
theorem dX7_noRow_92 : decode cX7_noRow 92 = .ok (.iconst 0, 1) := by decide +kernel
theorem dX7_noRow_93 : decode cX7_noRow 93 = .ok (.ireturn, 1) := by decide +kernel
set_option maxRecDepth 20000 in
theorem ggX7_does_X7_noGlove : GoodIn wsX7_does wsX7_noGlove := goodIn_r _ [7, 8, 9, 10, 6, 11, 51, 52, 53, 54, 55, 56, 57, 58, 59, 60, 61, 62, 63, 64, 65, 66, 67, 68, 69, 70, 71, 72, 73, 74, 75, 76, 77, 78, 79, 80, 81] (by decide +kernel) (by decide +kernel)
set_option maxRecDepth 20000 in
theorem gX7_does_X7_noGlove : GoodIn wsX7_does (wsV RX7 125 RX7 yX7_noGlove wsX7_noGlove) := goodIn_app (goodIn_of _ (by decide +kernel)) ggX7_does_X7_noGlove
set_option maxRecDepth 20000 in
theorem ggX7_does_X7_noRow : GoodIn wsX7_does wsX7_noRow := goodIn_r _ [15, 16, 17, 9, 10, 6, 11, 18, 19, 20, 51, 52, 53, 54, 55, 56, 57, 58, 59, 60, 61, 62, 63, 64, 65, 66, 67, 68, 69, 70, 71, 72, 73, 74, 75, 76, 77, 78, 79, 80, 81] (by decide +kernel) (by decide +kernel)
set_option maxRecDepth 20000 in
theorem gX7_does_X7_noRow : GoodIn wsX7_does (wsV RX7 146 RX7 yX7_noRow wsX7_noRow) := goodIn_app (goodIn_of _ (by decide +kernel)) ggX7_does_X7_noRow
set_option maxRecDepth 20000 in
theorem ggX7_does_X7_isWorn : GoodIn wsX7_does wsX7_isWorn := goodIn_r _ [24] (by decide +kernel) (by decide +kernel)
set_option maxRecDepth 20000 in
theorem gX7_does_X7_isWorn : GoodIn wsX7_does (wsV RX7 109 RX7 yX7_isWorn wsX7_isWorn) := goodIn_app (goodIn_of _ (by decide +kernel)) ggX7_does_X7_isWorn
set_option maxRecDepth 20000 in
theorem ggX7_does_X7_doesBy : GoodIn wsX7_does wsX7_doesBy := goodIn_r _ [28, 29, 30, 31, 32, 6, 33, 2, 18, 19, 20, 34, 35, 36, 37, 38, 39, 40, 41, 42, 43, 44, 45, 46, 47, 48, 49, 50, 51, 52, 53, 54, 55, 56, 57, 58, 59, 60, 61, 62, 63, 64, 65, 66, 67, 68, 69, 70, 71, 72, 73, 74, 75, 76, 77, 78, 79, 80, 81] (by decide +kernel) (by decide +kernel)
set_option maxRecDepth 20000 in
theorem gX7_does_X7_doesBy : GoodIn wsX7_does (wsV RX7 150 RX7 yX7_doesBy wsX7_doesBy) := goodIn_app (goodIn_of _ (by decide +kernel)) ggX7_does_X7_doesBy
theorem dX7_does_0 : decode cX7_does 0 = .ok (.aload_n 0, 1) := by decide +kernel
theorem dX7_does_1 : decode cX7_does 1 = .ok (.iconst 0, 1) := by decide +kernel
theorem dX7_does_2 : decode cX7_does 2 = .ok (.putfield 50, 3) := by decide +kernel
theorem dX7_does_5 : decode cX7_does 5 = .ok (.aload_n 0, 1) := by decide +kernel
theorem dX7_does_6 : decode cX7_does 6 = .ok (.iload_n 1, 1) := by decide +kernel
theorem dX7_does_7 : decode cX7_does 7 = .ok (.invokevirtual 125, 3) := by decide +kernel
theorem dX7_does_10 : decode cX7_does 10 = .ok (.ifCond .eq 5, 3) := by decide +kernel
theorem dX7_does_13 : decode cX7_does 13 = .ok (.iconst (-1), 1) := by decide +kernel
theorem dX7_does_14 : decode cX7_does 14 = .ok (.ireturn, 1) := by decide +kernel
theorem dX7_does_15 : decode cX7_does 15 = .ok (.aload_n 0, 1) := by decide +kernel
theorem dX7_does_16 : decode cX7_does 16 = .ok (.iload_n 2, 1) := by decide +kernel
theorem dX7_does_17 : decode cX7_does 17 = .ok (.iload_n 3, 1) := by decide +kernel
theorem dX7_does_18 : decode cX7_does 18 = .ok (.invokevirtual 146, 3) := by decide +kernel
theorem dX7_does_21 : decode cX7_does 21 = .ok (.ifCond .eq 6, 3) := by decide +kernel
theorem dX7_does_24 : decode cX7_does 24 = .ok (.bipush (-2), 2) := by decide +kernel
theorem dX7_does_26 : decode cX7_does 26 = .ok (.ireturn, 1) := by decide +kernel
theorem dX7_does_27 : decode cX7_does 27 = .ok (.aload_n 0, 1) := by decide +kernel
theorem dX7_does_28 : decode cX7_does 28 = .ok (.aload_n 0, 1) := by decide +kernel
theorem dX7_does_29 : decode cX7_does 29 = .ok (.getfield 25, 3) := by decide +kernel
theorem dX7_does_32 : decode cX7_does 32 = .ok (.iload_n 1, 1) := by decide +kernel
theorem dX7_does_33 : decode cX7_does 33 = .ok (.invokevirtual 109, 3) := by decide +kernel
theorem dX7_does_36 : decode cX7_does 36 = .ok (.ifCond .eq 8, 3) := by decide +kernel
theorem dX7_does_39 : decode cX7_does 39 = .ok (.bipush (-3), 2) := by decide +kernel
theorem dX7_does_41 : decode cX7_does 41 = .ok (.goto 10, 3) := by decide +kernel
theorem dX7_does_44 : decode cX7_does 44 = .ok (.aload_n 0, 1) := by decide +kernel
theorem dX7_does_45 : decode cX7_does 45 = .ok (.iload_n 1, 1) := by decide +kernel
theorem dX7_does_46 : decode cX7_does 46 = .ok (.iload_n 2, 1) := by decide +kernel
theorem dX7_does_47 : decode cX7_does 47 = .ok (.iload_n 3, 1) := by decide +kernel
theorem dX7_does_48 : decode cX7_does 48 = .ok (.invokevirtual 150, 3) := by decide +kernel
theorem dX7_does_51 : decode cX7_does 51 = .ok (.ireturn, 1) := by decide +kernel
set_option maxRecDepth 20000 in
theorem ggX7_findComes_X7_power : GoodIn wsX7_findComes wsX7_power := goodIn_r _ [6] (by decide +kernel) (by decide +kernel)
set_option maxRecDepth 20000 in
theorem gX7_findComes_X7_power : GoodIn wsX7_findComes (va_wsS RX7 138 yX7_power wsX7_power) := goodIn_app (goodIn_of _ (by decide +kernel)) ggX7_findComes_X7_power
set_option maxRecDepth 20000 in
theorem ggX7_findComes_X7_noRow : GoodIn wsX7_findComes wsX7_noRow := goodIn_r _ [10, 11, 12, 13, 14, 5, 15, 3, 4, 6, 43, 44, 45, 46, 47, 48, 49, 50, 51, 52, 53, 54, 55, 56, 57, 58, 59, 60, 61, 62, 63, 64, 65, 66, 67, 68, 69, 70, 71, 72, 73] (by decide +kernel) (by decide +kernel)
set_option maxRecDepth 20000 in
theorem gX7_findComes_X7_noRow : GoodIn wsX7_findComes (wsV RX7 146 RX7 yX7_noRow wsX7_noRow) := goodIn_app (goodIn_of _ (by decide +kernel)) ggX7_findComes_X7_noRow
set_option maxRecDepth 20000 in
theorem ggX7_findComes_X7_doesBy : GoodIn wsX7_findComes wsX7_doesBy := goodIn_r _ [19, 20, 21, 22, 23, 5, 24, 25, 3, 4, 6, 26, 27, 28, 29, 30, 31, 32, 33, 34, 35, 36, 37, 38, 39, 40, 41, 42, 43, 44, 45, 46, 47, 48, 49, 50, 51, 52, 53, 54, 55, 56, 57, 58, 59, 60, 61, 62, 63, 64, 65, 66, 67, 68, 69, 70, 71, 72, 73] (by decide +kernel) (by decide +kernel)
set_option maxRecDepth 20000 in
theorem gX7_findComes_X7_doesBy : GoodIn wsX7_findComes (wsV RX7 150 RX7 yX7_doesBy wsX7_doesBy) := goodIn_app (goodIn_of _ (by decide +kernel)) ggX7_findComes_X7_doesBy
theorem dX7_findComes_0 : decode cX7_findComes 0 = .ok (.aload_n 0, 1) := by decide +kernel
theorem dX7_findComes_1 : decode cX7_findComes 1 = .ok (.bipush (-9), 2) := by decide +kernel
theorem dX7_findComes_3 : decode cX7_findComes 3 = .ok (.putfield 154, 3) := by decide +kernel
theorem dX7_findComes_6 : decode cX7_findComes 6 = .ok (.aload_n 0, 1) := by decide +kernel
theorem dX7_findComes_7 : decode cX7_findComes 7 = .ok (.bipush (-9), 2) := by decide +kernel
theorem dX7_findComes_9 : decode cX7_findComes 9 = .ok (.putfield 157, 3) := by decide +kernel
theorem dX7_findComes_12 : decode cX7_findComes 12 = .ok (.iconst 1, 1) := by decide +kernel
theorem dX7_findComes_13 : decode cX7_findComes 13 = .ok (.istore_n 3, 1) := by decide +kernel
theorem dX7_findComes_14 : decode cX7_findComes 14 = .ok (.iload_n 3, 1) := by decide +kernel
theorem dX7_findComes_15 : decode cX7_findComes 15 = .ok (.iconst 4, 1) := by decide +kernel
theorem dX7_findComes_16 : decode cX7_findComes 16 = .ok (.if_icmp .gt 80, 3) := by decide +kernel
theorem dX7_findComes_19 : decode cX7_findComes 19 = .ok (.aload_n 0, 1) := by decide +kernel
theorem dX7_findComes_20 : decode cX7_findComes 20 = .ok (.getfield 154, 3) := by decide +kernel
theorem dX7_findComes_23 : decode cX7_findComes 23 = .ok (.bipush (-9), 2) := by decide +kernel
theorem dX7_findComes_25 : decode cX7_findComes 25 = .ok (.if_icmp .ne 71, 3) := by decide +kernel
theorem dX7_findComes_28 : decode cX7_findComes 28 = .ok (.iconst 0, 1) := by decide +kernel
theorem dX7_findComes_29 : decode cX7_findComes 29 = .ok (.istore 4, 2) := by decide +kernel
theorem dX7_findComes_31 : decode cX7_findComes 31 = .ok (.iload 4, 2) := by decide +kernel
theorem dX7_findComes_33 : decode cX7_findComes 33 = .ok (.bipush 10, 2) := by decide +kernel
theorem dX7_findComes_35 : decode cX7_findComes 35 = .ok (.iload_n 3, 1) := by decide +kernel
theorem dX7_findComes_36 : decode cX7_findComes 36 = .ok (.invokestatic 138, 3) := by decide +kernel
theorem dX7_findComes_39 : decode cX7_findComes 39 = .ok (.if_icmp .ge 51, 3) := by decide +kernel
theorem dX7_findComes_42 : decode cX7_findComes 42 = .ok (.aload_n 0, 1) := by decide +kernel
theorem dX7_findComes_43 : decode cX7_findComes 43 = .ok (.getfield 154, 3) := by decide +kernel
theorem dX7_findComes_46 : decode cX7_findComes 46 = .ok (.bipush (-9), 2) := by decide +kernel
theorem dX7_findComes_48 : decode cX7_findComes 48 = .ok (.if_icmp .ne 42, 3) := by decide +kernel
theorem dX7_findComes_51 : decode cX7_findComes 51 = .ok (.aload_n 0, 1) := by decide +kernel
theorem dX7_findComes_52 : decode cX7_findComes 52 = .ok (.iload_n 3, 1) := by decide +kernel
theorem dX7_findComes_53 : decode cX7_findComes 53 = .ok (.iload 4, 2) := by decide +kernel
theorem dX7_findComes_55 : decode cX7_findComes 55 = .ok (.invokevirtual 146, 3) := by decide +kernel
theorem dX7_findComes_58 : decode cX7_findComes 58 = .ok (.ifCond .ne 26, 3) := by decide +kernel
theorem dX7_findComes_61 : decode cX7_findComes 61 = .ok (.aload_n 0, 1) := by decide +kernel
theorem dX7_findComes_62 : decode cX7_findComes 62 = .ok (.iload_n 1, 1) := by decide +kernel
theorem dX7_findComes_63 : decode cX7_findComes 63 = .ok (.iload_n 3, 1) := by decide +kernel
theorem dX7_findComes_64 : decode cX7_findComes 64 = .ok (.iload 4, 2) := by decide +kernel
theorem dX7_findComes_66 : decode cX7_findComes 66 = .ok (.invokevirtual 150, 3) := by decide +kernel
theorem dX7_findComes_69 : decode cX7_findComes 69 = .ok (.iload_n 2, 1) := by decide +kernel
theorem dX7_findComes_70 : decode cX7_findComes 70 = .ok (.if_icmp .ne 14, 3) := by decide +kernel
theorem dX7_findComes_73 : decode cX7_findComes 73 = .ok (.aload_n 0, 1) := by decide +kernel
theorem dX7_findComes_74 : decode cX7_findComes 74 = .ok (.iload_n 3, 1) := by decide +kernel
theorem dX7_findComes_75 : decode cX7_findComes 75 = .ok (.putfield 154, 3) := by decide +kernel
theorem dX7_findComes_78 : decode cX7_findComes 78 = .ok (.aload_n 0, 1) := by decide +kernel
theorem dX7_findComes_79 : decode cX7_findComes 79 = .ok (.iload 4, 2) := by decide +kernel
theorem dX7_findComes_81 : decode cX7_findComes 81 = .ok (.putfield 157, 3) := by decide +kernel
theorem dX7_findComes_84 : decode cX7_findComes 84 = .ok (.iinc 4 1, 3) := by decide +kernel
theorem dX7_findComes_87 : decode cX7_findComes 87 = .ok (.goto (-56), 3) := by decide +kernel
theorem dX7_findComes_90 : decode cX7_findComes 90 = .ok (.iinc 3 1, 3) := by decide +kernel
theorem dX7_findComes_93 : decode cX7_findComes 93 = .ok (.goto (-79), 3) := by decide +kernel
theorem dX7_findComes_96 : decode cX7_findComes 96 = .ok (.return_, 1) := by decide +kernel
set_option maxRecDepth 20000 in
theorem ggX7_comes_X7_noGlove : GoodIn wsX7_comes wsX7_noGlove := goodIn_r _ [10, 11, 12, 13, 9, 14, 58, 59, 60, 61, 62, 63, 64, 65, 66, 67, 68, 69, 70, 71, 72, 73, 74, 75, 76, 77, 78, 79, 80, 81, 82, 83, 84, 85, 86, 87, 88] (by decide +kernel) (by decide +kernel)
set_option maxRecDepth 20000 in
theorem gX7_comes_X7_noGlove : GoodIn wsX7_comes (wsV RX7 125 RX7 yX7_noGlove wsX7_noGlove) := goodIn_app (goodIn_of _ (by decide +kernel)) ggX7_comes_X7_noGlove
set_option maxRecDepth 20000 in
theorem ggX7_comes_X7_in : GoodIn wsX7_comes wsX7_in := goodIn_r _ [14] (by decide +kernel) (by decide +kernel)
set_option maxRecDepth 20000 in
theorem gX7_comes_X7_in : GoodIn wsX7_comes (va_wsS RX7 57 yX7_in wsX7_in) := goodIn_app (goodIn_of _ (by decide +kernel)) ggX7_comes_X7_in
set_option maxRecDepth 20000 in
theorem ggX7_comes_X7_isWorn : GoodIn wsX7_comes wsX7_isWorn := goodIn_r _ [18] (by decide +kernel) (by decide +kernel)
set_option maxRecDepth 20000 in
theorem gX7_comes_X7_isWorn : GoodIn wsX7_comes (wsV RX7 109 RX7 yX7_isWorn wsX7_isWorn) := goodIn_app (goodIn_of _ (by decide +kernel)) ggX7_comes_X7_isWorn
set_option maxRecDepth 20000 in
theorem ggX7_comes_X7_findComes : GoodIn wsX7_comes wsX7_findComes := goodIn_r _ [22, 4, 5, 23, 24, 9, 25, 26, 27, 28, 29, 30, 31, 12, 13, 14, 32, 33, 34, 35, 36, 37, 38, 39, 40, 3, 41, 42, 43, 44, 45, 46, 47, 48, 49, 50, 51, 52, 53, 54, 55, 56, 57, 58, 59, 60, 61, 62, 63, 64, 65, 66, 67, 68, 69, 70, 71, 72, 73, 74, 75, 76, 77, 78, 79, 80, 81, 82, 83, 84, 85, 86, 87, 88] (by decide +kernel) (by decide +kernel)
set_option maxRecDepth 20000 in
theorem gX7_comes_X7_findComes : GoodIn wsX7_comes (wsV RX7 162 RX7 yX7_findComes wsX7_findComes) := goodIn_app (goodIn_of _ (by decide +kernel)) ggX7_comes_X7_findComes
theorem dX7_comes_0 : decode cX7_comes 0 = .ok (.aload_n 0, 1) := by decide +kernel
theorem dX7_comes_1 : decode cX7_comes 1 = .ok (.iconst 0, 1) := by decide +kernel
theorem dX7_comes_2 : decode cX7_comes 2 = .ok (.putfield 50, 3) := by decide +kernel
theorem dX7_comes_5 : decode cX7_comes 5 = .ok (.aload_n 0, 1) := by decide +kernel
theorem dX7_comes_6 : decode cX7_comes 6 = .ok (.iload_n 1, 1) := by decide +kernel
theorem dX7_comes_7 : decode cX7_comes 7 = .ok (.invokevirtual 125, 3) := by decide +kernel
theorem dX7_comes_10 : decode cX7_comes 10 = .ok (.ifCond .eq 5, 3) := by decide +kernel
theorem dX7_comes_13 : decode cX7_comes 13 = .ok (.iconst (-1), 1) := by decide +kernel
theorem dX7_comes_14 : decode cX7_comes 14 = .ok (.ireturn, 1) := by decide +kernel
theorem dX7_comes_15 : decode cX7_comes 15 = .ok (.iload_n 2, 1) := by decide +kernel
theorem dX7_comes_16 : decode cX7_comes 16 = .ok (.i2l, 1) := by decide +kernel
theorem dX7_comes_17 : decode cX7_comes 17 = .ok (.lconst 1, 1) := by decide +kernel
theorem dX7_comes_18 : decode cX7_comes 18 = .ok (.ldc2_w 160, 3) := by decide +kernel
theorem dX7_comes_21 : decode cX7_comes 21 = .ok (.invokestatic 57, 3) := by decide +kernel
theorem dX7_comes_24 : decode cX7_comes 24 = .ok (.ifCond .eq 13, 3) := by decide +kernel
theorem dX7_comes_27 : decode cX7_comes 27 = .ok (.iload_n 3, 1) := by decide +kernel
theorem dX7_comes_28 : decode cX7_comes 28 = .ok (.i2l, 1) := by decide +kernel
theorem dX7_comes_29 : decode cX7_comes 29 = .ok (.lconst 0, 1) := by decide +kernel
theorem dX7_comes_30 : decode cX7_comes 30 = .ok (.lconst 1, 1) := by decide +kernel
theorem dX7_comes_31 : decode cX7_comes 31 = .ok (.invokestatic 57, 3) := by decide +kernel
theorem dX7_comes_34 : decode cX7_comes 34 = .ok (.ifCond .ne 6, 3) := by decide +kernel
theorem dX7_comes_37 : decode cX7_comes 37 = .ok (.bipush (-2), 2) := by decide +kernel
end
section
theorem dX7_comes_39 : decode cX7_comes 39 = .ok (.ireturn, 1) := by decide +kernel
theorem dX7_comes_40 : decode cX7_comes 40 = .ok (.aload_n 0, 1) := by decide +kernel
theorem dX7_comes_41 : decode cX7_comes 41 = .ok (.aload_n 0, 1) := by decide +kernel
theorem dX7_comes_42 : decode cX7_comes 42 = .ok (.getfield 25, 3) := by decide +kernel
theorem dX7_comes_45 : decode cX7_comes 45 = .ok (.iload_n 1, 1) := by decide +kernel
theorem dX7_comes_46 : decode cX7_comes 46 = .ok (.invokevirtual 109, 3) := by decide +kernel
theorem dX7_comes_49 : decode cX7_comes 49 = .ok (.ifCond .eq 6, 3) := by decide +kernel
theorem dX7_comes_52 : decode cX7_comes 52 = .ok (.bipush (-3), 2) := by decide +kernel
theorem dX7_comes_54 : decode cX7_comes 54 = .ok (.ireturn, 1) := by decide +kernel
theorem dX7_comes_55 : decode cX7_comes 55 = .ok (.aload_n 0, 1) := by decide +kernel
theorem dX7_comes_56 : decode cX7_comes 56 = .ok (.iload_n 1, 1) := by decide +kernel
theorem dX7_comes_57 : decode cX7_comes 57 = .ok (.iload_n 2, 1) := by decide +kernel
theorem dX7_comes_58 : decode cX7_comes 58 = .ok (.invokevirtual 162, 3) := by decide +kernel
theorem dX7_comes_61 : decode cX7_comes 61 = .ok (.iload_n 3, 1) := by decide +kernel
theorem dX7_comes_62 : decode cX7_comes 62 = .ok (.ifCond .ne 10, 3) := by decide +kernel
theorem dX7_comes_65 : decode cX7_comes 65 = .ok (.aload_n 0, 1) := by decide +kernel
theorem dX7_comes_66 : decode cX7_comes 66 = .ok (.getfield 154, 3) := by decide +kernel
theorem dX7_comes_69 : decode cX7_comes 69 = .ok (.goto 7, 3) := by decide +kernel
theorem dX7_comes_72 : decode cX7_comes 72 = .ok (.aload_n 0, 1) := by decide +kernel
theorem dX7_comes_73 : decode cX7_comes 73 = .ok (.getfield 157, 3) := by decide +kernel
theorem dX7_comes_76 : decode cX7_comes 76 = .ok (.ireturn, 1) := by decide +kernel
set_option maxRecDepth 20000 in
theorem ggX7_isRound_X7_begin : GoodIn wsX7_isRound wsX7_begin := goodIn_r _ [7, 2, 8, 32, 33, 34, 35, 36, 37, 38, 39, 40, 41, 42, 43, 44, 45, 46, 47, 48, 49, 50, 51, 52, 53, 54, 55, 56, 57, 58, 59, 60, 61, 62] (by decide +kernel) (by decide +kernel)
set_option maxRecDepth 20000 in
theorem gX7_isRound_X7_begin : GoodIn wsX7_isRound (wsV RX7 135 RX7 yX7_begin wsX7_begin) := goodIn_app (goodIn_of _ (by decide +kernel)) ggX7_isRound_X7_begin
set_option maxRecDepth 20000 in
theorem ggX7_isRound_X7_power : GoodIn wsX7_isRound wsX7_power := goodIn_r _ [11] (by decide +kernel) (by decide +kernel)
set_option maxRecDepth 20000 in
theorem gX7_isRound_X7_power : GoodIn wsX7_isRound (va_wsS RX7 138 yX7_power wsX7_power) := goodIn_app (goodIn_of _ (by decide +kernel)) ggX7_isRound_X7_power
set_option maxRecDepth 20000 in
theorem ggX7_isRound_X7_in : GoodIn wsX7_isRound wsX7_in := goodIn_r _ [14] (by decide +kernel) (by decide +kernel)
set_option maxRecDepth 20000 in
theorem gX7_isRound_X7_in : GoodIn wsX7_isRound (va_wsS RX7 57 yX7_in wsX7_in) := goodIn_app (goodIn_of _ (by decide +kernel)) ggX7_isRound_X7_in
set_option maxRecDepth 20000 in
theorem ggX7_isRound_X7_goHand : GoodIn wsX7_isRound wsX7_goHand := goodIn_r _ [18, 19, 20, 21, 22, 6, 23, 24, 25, 26, 27, 28, 29, 30, 31, 32, 33, 34, 35, 36, 37, 38, 39, 40, 41, 42, 43, 44, 45, 46, 47, 48, 49, 50, 51, 52, 53, 54, 55, 56, 57, 58, 59, 60, 61, 62] (by decide +kernel) (by decide +kernel)
set_option maxRecDepth 20000 in
theorem gX7_isRound_X7_goHand : GoodIn wsX7_isRound (wsV RX7 141 RX7 yX7_goHand wsX7_goHand) := goodIn_app (goodIn_of _ (by decide +kernel)) ggX7_isRound_X7_goHand
theorem dX7_isRound_0 : decode cX7_isRound 0 = .ok (.aload_n 0, 1) := by decide +kernel
theorem dX7_isRound_1 : decode cX7_isRound 1 = .ok (.invokevirtual 135, 3) := by decide +kernel
theorem dX7_isRound_4 : decode cX7_isRound 4 = .ok (.iconst 0, 1) := by decide +kernel
theorem dX7_isRound_5 : decode cX7_isRound 5 = .ok (.istore_n 3, 1) := by decide +kernel
theorem dX7_isRound_6 : decode cX7_isRound 6 = .ok (.bipush (-9), 2) := by decide +kernel
theorem dX7_isRound_8 : decode cX7_isRound 8 = .ok (.istore 4, 2) := by decide +kernel
theorem dX7_isRound_10 : decode cX7_isRound 10 = .ok (.iconst 1, 1) := by decide +kernel
theorem dX7_isRound_11 : decode cX7_isRound 11 = .ok (.istore 5, 2) := by decide +kernel
theorem dX7_isRound_13 : decode cX7_isRound 13 = .ok (.aload_n 0, 1) := by decide +kernel
theorem dX7_isRound_14 : decode cX7_isRound 14 = .ok (.getfield 54, 3) := by decide +kernel
theorem dX7_isRound_17 : decode cX7_isRound 17 = .ok (.iconst 1, 1) := by decide +kernel
theorem dX7_isRound_18 : decode cX7_isRound 18 = .ok (.isub, 1) := by decide +kernel
theorem dX7_isRound_19 : decode cX7_isRound 19 = .ok (.istore 6, 2) := by decide +kernel
theorem dX7_isRound_21 : decode cX7_isRound 21 = .ok (.iload 6, 2) := by decide +kernel
theorem dX7_isRound_23 : decode cX7_isRound 23 = .ok (.ifCond .lt 106, 3) := by decide +kernel
theorem dX7_isRound_26 : decode cX7_isRound 26 = .ok (.iload 5, 2) := by decide +kernel
theorem dX7_isRound_28 : decode cX7_isRound 28 = .ok (.ifCond .eq 101, 3) := by decide +kernel
theorem dX7_isRound_31 : decode cX7_isRound 31 = .ok (.iload_n 2, 1) := by decide +kernel
theorem dX7_isRound_32 : decode cX7_isRound 32 = .ok (.bipush 10, 2) := by decide +kernel
theorem dX7_isRound_34 : decode cX7_isRound 34 = .ok (.iload 6, 2) := by decide +kernel
theorem dX7_isRound_36 : decode cX7_isRound 36 = .ok (.invokestatic 138, 3) := by decide +kernel
theorem dX7_isRound_39 : decode cX7_isRound 39 = .ok (.idiv, 1) := by decide +kernel
theorem dX7_isRound_40 : decode cX7_isRound 40 = .ok (.bipush 10, 2) := by decide +kernel
theorem dX7_isRound_42 : decode cX7_isRound 42 = .ok (.irem, 1) := by decide +kernel
theorem dX7_isRound_43 : decode cX7_isRound 43 = .ok (.iconst 1, 1) := by decide +kernel
theorem dX7_isRound_44 : decode cX7_isRound 44 = .ok (.isub, 1) := by decide +kernel
theorem dX7_isRound_45 : decode cX7_isRound 45 = .ok (.istore 7, 2) := by decide +kernel
theorem dX7_isRound_47 : decode cX7_isRound 47 = .ok (.iload 7, 2) := by decide +kernel
theorem dX7_isRound_49 : decode cX7_isRound 49 = .ok (.i2l, 1) := by decide +kernel
theorem dX7_isRound_50 : decode cX7_isRound 50 = .ok (.lconst 0, 1) := by decide +kernel
theorem dX7_isRound_51 : decode cX7_isRound 51 = .ok (.aload_n 0, 1) := by decide +kernel
theorem dX7_isRound_52 : decode cX7_isRound 52 = .ok (.getfield 54, 3) := by decide +kernel
theorem dX7_isRound_55 : decode cX7_isRound 55 = .ok (.iconst 1, 1) := by decide +kernel
theorem dX7_isRound_56 : decode cX7_isRound 56 = .ok (.isub, 1) := by decide +kernel
theorem dX7_isRound_57 : decode cX7_isRound 57 = .ok (.i2l, 1) := by decide +kernel
theorem dX7_isRound_58 : decode cX7_isRound 58 = .ok (.invokestatic 57, 3) := by decide +kernel
theorem dX7_isRound_61 : decode cX7_isRound 61 = .ok (.ifCond .eq 16, 3) := by decide +kernel
theorem dX7_isRound_64 : decode cX7_isRound 64 = .ok (.iload_n 3, 1) := by decide +kernel
theorem dX7_isRound_65 : decode cX7_isRound 65 = .ok (.iload 7, 2) := by decide +kernel
theorem dX7_isRound_67 : decode cX7_isRound 67 = .ok (.ishr, 1) := by decide +kernel
theorem dX7_isRound_68 : decode cX7_isRound 68 = .ok (.iconst 1, 1) := by decide +kernel
theorem dX7_isRound_69 : decode cX7_isRound 69 = .ok (.iand, 1) := by decide +kernel
theorem dX7_isRound_70 : decode cX7_isRound 70 = .ok (.ifCond .ne 7, 3) := by decide +kernel
theorem dX7_isRound_73 : decode cX7_isRound 73 = .ok (.iconst 1, 1) := by decide +kernel
theorem dX7_isRound_74 : decode cX7_isRound 74 = .ok (.goto 4, 3) := by decide +kernel
theorem dX7_isRound_77 : decode cX7_isRound 77 = .ok (.iconst 0, 1) := by decide +kernel
theorem dX7_isRound_78 : decode cX7_isRound 78 = .ok (.istore 5, 2) := by decide +kernel
theorem dX7_isRound_80 : decode cX7_isRound 80 = .ok (.iload 5, 2) := by decide +kernel
theorem dX7_isRound_82 : decode cX7_isRound 82 = .ok (.ifCond .eq 41, 3) := by decide +kernel
theorem dX7_isRound_85 : decode cX7_isRound 85 = .ok (.iload_n 3, 1) := by decide +kernel
theorem dX7_isRound_86 : decode cX7_isRound 86 = .ok (.iconst 1, 1) := by decide +kernel
theorem dX7_isRound_87 : decode cX7_isRound 87 = .ok (.iload 7, 2) := by decide +kernel
theorem dX7_isRound_89 : decode cX7_isRound 89 = .ok (.ishl, 1) := by decide +kernel
theorem dX7_isRound_90 : decode cX7_isRound 90 = .ok (.ior, 1) := by decide +kernel
theorem dX7_isRound_91 : decode cX7_isRound 91 = .ok (.istore_n 3, 1) := by decide +kernel
theorem dX7_isRound_92 : decode cX7_isRound 92 = .ok (.aload_n 0, 1) := by decide +kernel
theorem dX7_isRound_93 : decode cX7_isRound 93 = .ok (.aload_n 0, 1) := by decide +kernel
theorem dX7_isRound_94 : decode cX7_isRound 94 = .ok (.getfield 28, 3) := by decide +kernel
theorem dX7_isRound_97 : decode cX7_isRound 97 = .ok (.iload_n 1, 1) := by decide +kernel
theorem dX7_isRound_98 : decode cX7_isRound 98 = .ok (.iload 7, 2) := by decide +kernel
theorem dX7_isRound_100 : decode cX7_isRound 100 = .ok (.invokevirtual 141, 3) := by decide +kernel
theorem dX7_isRound_103 : decode cX7_isRound 103 = .ok (.istore 8, 2) := by decide +kernel
theorem dX7_isRound_105 : decode cX7_isRound 105 = .ok (.iload 8, 2) := by decide +kernel
theorem dX7_isRound_107 : decode cX7_isRound 107 = .ok (.iload 4, 2) := by decide +kernel
theorem dX7_isRound_109 : decode cX7_isRound 109 = .ok (.if_icmp .eq 7, 3) := by decide +kernel
theorem dX7_isRound_112 : decode cX7_isRound 112 = .ok (.iconst 1, 1) := by decide +kernel
theorem dX7_isRound_113 : decode cX7_isRound 113 = .ok (.goto 4, 3) := by decide +kernel
theorem dX7_isRound_116 : decode cX7_isRound 116 = .ok (.iconst 0, 1) := by decide +kernel
theorem dX7_isRound_117 : decode cX7_isRound 117 = .ok (.istore 5, 2) := by decide +kernel
theorem dX7_isRound_119 : decode cX7_isRound 119 = .ok (.iload 8, 2) := by decide +kernel
theorem dX7_isRound_121 : decode cX7_isRound 121 = .ok (.istore 4, 2) := by decide +kernel
theorem dX7_isRound_123 : decode cX7_isRound 123 = .ok (.iinc 6 (-1), 3) := by decide +kernel
theorem dX7_isRound_126 : decode cX7_isRound 126 = .ok (.goto (-105), 3) := by decide +kernel
theorem dX7_isRound_129 : decode cX7_isRound 129 = .ok (.iload 5, 2) := by decide +kernel
theorem dX7_isRound_131 : decode cX7_isRound 131 = .ok (.ireturn, 1) := by decide +kernel
set_option maxRecDepth 20000 in
theorem ggX7_findRounds_X7_power : GoodIn wsX7_findRounds wsX7_power := goodIn_r _ [7] (by decide +kernel) (by decide +kernel)
set_option maxRecDepth 20000 in
theorem gX7_findRounds_X7_power : GoodIn wsX7_findRounds (va_wsS RX7 138 yX7_power wsX7_power) := goodIn_app (goodIn_of _ (by decide +kernel)) ggX7_findRounds_X7_power
set_option maxRecDepth 20000 in
theorem ggX7_findRounds_X7_isRound : GoodIn wsX7_findRounds wsX7_isRound := goodIn_r _ [11, 3, 12, 13, 14, 15, 6, 16, 17, 4, 5, 7, 18, 19, 20, 21, 22, 23, 24, 25, 26, 27, 28, 29, 30, 31, 32, 33, 34, 35, 36, 37, 38, 39, 40, 41, 42, 43, 44, 45, 46, 47, 48, 49, 50, 51, 52, 53, 54, 55, 56, 57, 58, 59, 60, 61, 62, 63, 64, 65, 66, 67, 68] (by decide +kernel) (by decide +kernel)
set_option maxRecDepth 20000 in
theorem gX7_findRounds_X7_isRound : GoodIn wsX7_findRounds (wsV RX7 172 RX7 yX7_isRound wsX7_isRound) := goodIn_app (goodIn_of _ (by decide +kernel)) ggX7_findRounds_X7_isRound
theorem dX7_findRounds_0 : decode cX7_findRounds 0 = .ok (.aload_n 0, 1) := by decide +kernel
theorem dX7_findRounds_1 : decode cX7_findRounds 1 = .ok (.iconst 0, 1) := by decide +kernel
theorem dX7_findRounds_2 : decode cX7_findRounds 2 = .ok (.putfield 166, 3) := by decide +kernel
theorem dX7_findRounds_5 : decode cX7_findRounds 5 = .ok (.aload_n 0, 1) := by decide +kernel
theorem dX7_findRounds_6 : decode cX7_findRounds 6 = .ok (.bipush (-9), 2) := by decide +kernel
theorem dX7_findRounds_8 : decode cX7_findRounds 8 = .ok (.putfield 169, 3) := by decide +kernel
theorem dX7_findRounds_11 : decode cX7_findRounds 11 = .ok (.iconst 0, 1) := by decide +kernel
theorem dX7_findRounds_12 : decode cX7_findRounds 12 = .ok (.istore_n 2, 1) := by decide +kernel
theorem dX7_findRounds_13 : decode cX7_findRounds 13 = .ok (.iload_n 2, 1) := by decide +kernel
theorem dX7_findRounds_14 : decode cX7_findRounds 14 = .ok (.bipush 10, 2) := by decide +kernel
theorem dX7_findRounds_16 : decode cX7_findRounds 16 = .ok (.aload_n 0, 1) := by decide +kernel
theorem dX7_findRounds_17 : decode cX7_findRounds 17 = .ok (.getfield 54, 3) := by decide +kernel
theorem dX7_findRounds_20 : decode cX7_findRounds 20 = .ok (.invokestatic 138, 3) := by decide +kernel
theorem dX7_findRounds_23 : decode cX7_findRounds 23 = .ok (.if_icmp .ge 47, 3) := by decide +kernel
theorem dX7_findRounds_26 : decode cX7_findRounds 26 = .ok (.aload_n 0, 1) := by decide +kernel
theorem dX7_findRounds_27 : decode cX7_findRounds 27 = .ok (.iload_n 1, 1) := by decide +kernel
theorem dX7_findRounds_28 : decode cX7_findRounds 28 = .ok (.iload_n 2, 1) := by decide +kernel
theorem dX7_findRounds_29 : decode cX7_findRounds 29 = .ok (.invokevirtual 172, 3) := by decide +kernel
theorem dX7_findRounds_32 : decode cX7_findRounds 32 = .ok (.ifCond .eq 32, 3) := by decide +kernel
theorem dX7_findRounds_35 : decode cX7_findRounds 35 = .ok (.aload_n 0, 1) := by decide +kernel
theorem dX7_findRounds_36 : decode cX7_findRounds 36 = .ok (.aload_n 0, 1) := by decide +kernel
theorem dX7_findRounds_37 : decode cX7_findRounds 37 = .ok (.getfield 166, 3) := by decide +kernel
theorem dX7_findRounds_40 : decode cX7_findRounds 40 = .ok (.ifCond .ne 7, 3) := by decide +kernel
theorem dX7_findRounds_43 : decode cX7_findRounds 43 = .ok (.iload_n 2, 1) := by decide +kernel
theorem dX7_findRounds_44 : decode cX7_findRounds 44 = .ok (.goto 7, 3) := by decide +kernel
theorem dX7_findRounds_47 : decode cX7_findRounds 47 = .ok (.aload_n 0, 1) := by decide +kernel
theorem dX7_findRounds_48 : decode cX7_findRounds 48 = .ok (.getfield 169, 3) := by decide +kernel
theorem dX7_findRounds_51 : decode cX7_findRounds 51 = .ok (.putfield 169, 3) := by decide +kernel
theorem dX7_findRounds_54 : decode cX7_findRounds 54 = .ok (.aload_n 0, 1) := by decide +kernel
theorem dX7_findRounds_55 : decode cX7_findRounds 55 = .ok (.dup, 1) := by decide +kernel
theorem dX7_findRounds_56 : decode cX7_findRounds 56 = .ok (.getfield 166, 3) := by decide +kernel
theorem dX7_findRounds_59 : decode cX7_findRounds 59 = .ok (.iconst 1, 1) := by decide +kernel
theorem dX7_findRounds_60 : decode cX7_findRounds 60 = .ok (.iadd, 1) := by decide +kernel
theorem dX7_findRounds_61 : decode cX7_findRounds 61 = .ok (.putfield 166, 3) := by decide +kernel
theorem dX7_findRounds_64 : decode cX7_findRounds 64 = .ok (.iinc 2 1, 3) := by decide +kernel
theorem dX7_findRounds_67 : decode cX7_findRounds 67 = .ok (.goto (-54), 3) := by decide +kernel
theorem dX7_findRounds_70 : decode cX7_findRounds 70 = .ok (.return_, 1) := by decide +kernel
set_option maxRecDepth 20000 in
theorem ggX7_rounds_X7_noGlove : GoodIn wsX7_rounds wsX7_noGlove := goodIn_r _ [9, 10, 11, 12, 8, 13, 52, 53, 54, 55, 56, 57, 58, 59, 60, 61, 62, 63, 64, 65, 66, 67, 68, 69, 70, 71, 72, 73, 74, 75, 76, 77, 78, 79, 80, 81, 82] (by decide +kernel) (by decide +kernel)
set_option maxRecDepth 20000 in
theorem gX7_rounds_X7_noGlove : GoodIn wsX7_rounds (wsV RX7 125 RX7 yX7_noGlove wsX7_noGlove) := goodIn_app (goodIn_of _ (by decide +kernel)) ggX7_rounds_X7_noGlove
set_option maxRecDepth 20000 in
theorem ggX7_rounds_X7_in : GoodIn wsX7_rounds wsX7_in := goodIn_r _ [13] (by decide +kernel) (by decide +kernel)
set_option maxRecDepth 20000 in
theorem gX7_rounds_X7_in : GoodIn wsX7_rounds (va_wsS RX7 57 yX7_in wsX7_in) := goodIn_app (goodIn_of _ (by decide +kernel)) ggX7_rounds_X7_in
set_option maxRecDepth 20000 in
theorem ggX7_rounds_X7_isWorn : GoodIn wsX7_rounds wsX7_isWorn := goodIn_r _ [17] (by decide +kernel) (by decide +kernel)
set_option maxRecDepth 20000 in
theorem gX7_rounds_X7_isWorn : GoodIn wsX7_rounds (wsV RX7 109 RX7 yX7_isWorn wsX7_isWorn) := goodIn_app (goodIn_of _ (by decide +kernel)) ggX7_rounds_X7_isWorn
set_option maxRecDepth 20000 in
theorem ggX7_rounds_X7_findRounds : GoodIn wsX7_rounds wsX7_findRounds := goodIn_r _ [21, 3, 4, 22, 23, 24, 8, 25, 26, 27, 28, 29, 30, 31, 32, 33, 34, 2, 11, 12, 13, 35, 36, 37, 38, 39, 40, 41, 42, 43, 44, 45, 46, 47, 48, 49, 50, 51, 52, 53, 54, 55, 56, 57, 58, 59, 60, 61, 62, 63, 64, 65, 66, 67, 68, 69, 70, 71, 72, 73, 74, 75, 76, 77, 78, 79, 80, 81, 82] (by decide +kernel) (by decide +kernel)
set_option maxRecDepth 20000 in
theorem gX7_rounds_X7_findRounds : GoodIn wsX7_rounds (wsV RX7 175 RX7 yX7_findRounds wsX7_findRounds) := goodIn_app (goodIn_of _ (by decide +kernel)) ggX7_rounds_X7_findRounds
theorem dX7_rounds_0 : decode cX7_rounds 0 = .ok (.aload_n 0, 1) := by decide +kernel
theorem dX7_rounds_1 : decode cX7_rounds 1 = .ok (.iconst 0, 1) := by decide +kernel
theorem dX7_rounds_2 : decode cX7_rounds 2 = .ok (.putfield 50, 3) := by decide +kernel
theorem dX7_rounds_5 : decode cX7_rounds 5 = .ok (.aload_n 0, 1) := by decide +kernel
theorem dX7_rounds_6 : decode cX7_rounds 6 = .ok (.iload_n 1, 1) := by decide +kernel
theorem dX7_rounds_7 : decode cX7_rounds 7 = .ok (.invokevirtual 125, 3) := by decide +kernel
theorem dX7_rounds_10 : decode cX7_rounds 10 = .ok (.ifCond .eq 5, 3) := by decide +kernel
theorem dX7_rounds_13 : decode cX7_rounds 13 = .ok (.iconst (-1), 1) := by decide +kernel
theorem dX7_rounds_14 : decode cX7_rounds 14 = .ok (.ireturn, 1) := by decide +kernel
theorem dX7_rounds_15 : decode cX7_rounds 15 = .ok (.iload_n 2, 1) := by decide +kernel
theorem dX7_rounds_16 : decode cX7_rounds 16 = .ok (.i2l, 1) := by decide +kernel
theorem dX7_rounds_17 : decode cX7_rounds 17 = .ok (.lconst 0, 1) := by decide +kernel
theorem dX7_rounds_18 : decode cX7_rounds 18 = .ok (.lconst 1, 1) := by decide +kernel
theorem dX7_rounds_19 : decode cX7_rounds 19 = .ok (.invokestatic 57, 3) := by decide +kernel
theorem dX7_rounds_22 : decode cX7_rounds 22 = .ok (.ifCond .ne 6, 3) := by decide +kernel
theorem dX7_rounds_25 : decode cX7_rounds 25 = .ok (.bipush (-2), 2) := by decide +kernel
theorem dX7_rounds_27 : decode cX7_rounds 27 = .ok (.ireturn, 1) := by decide +kernel
theorem dX7_rounds_28 : decode cX7_rounds 28 = .ok (.aload_n 0, 1) := by decide +kernel
theorem dX7_rounds_29 : decode cX7_rounds 29 = .ok (.aload_n 0, 1) := by decide +kernel
theorem dX7_rounds_30 : decode cX7_rounds 30 = .ok (.getfield 25, 3) := by decide +kernel
theorem dX7_rounds_33 : decode cX7_rounds 33 = .ok (.iload_n 1, 1) := by decide +kernel
theorem dX7_rounds_34 : decode cX7_rounds 34 = .ok (.invokevirtual 109, 3) := by decide +kernel
theorem dX7_rounds_37 : decode cX7_rounds 37 = .ok (.ifCond .eq 6, 3) := by decide +kernel
theorem dX7_rounds_40 : decode cX7_rounds 40 = .ok (.bipush (-3), 2) := by decide +kernel
theorem dX7_rounds_42 : decode cX7_rounds 42 = .ok (.ireturn, 1) := by decide +kernel
theorem dX7_rounds_43 : decode cX7_rounds 43 = .ok (.aload_n 0, 1) := by decide +kernel
theorem dX7_rounds_44 : decode cX7_rounds 44 = .ok (.iload_n 1, 1) := by decide +kernel
theorem dX7_rounds_45 : decode cX7_rounds 45 = .ok (.invokevirtual 175, 3) := by decide +kernel
theorem dX7_rounds_48 : decode cX7_rounds 48 = .ok (.iload_n 2, 1) := by decide +kernel
theorem dX7_rounds_49 : decode cX7_rounds 49 = .ok (.ifCond .ne 10, 3) := by decide +kernel
theorem dX7_rounds_52 : decode cX7_rounds 52 = .ok (.aload_n 0, 1) := by decide +kernel
theorem dX7_rounds_53 : decode cX7_rounds 53 = .ok (.getfield 166, 3) := by decide +kernel
theorem dX7_rounds_56 : decode cX7_rounds 56 = .ok (.goto 7, 3) := by decide +kernel
theorem dX7_rounds_59 : decode cX7_rounds 59 = .ok (.aload_n 0, 1) := by decide +kernel
theorem dX7_rounds_60 : decode cX7_rounds 60 = .ok (.getfield 169, 3) := by decide +kernel
theorem dX7_rounds_63 : decode cX7_rounds 63 = .ok (.ireturn, 1) := by decide +kernel
set_option maxRecDepth 20000 in
theorem ggX7_givesAway_X7_noGlove : GoodIn wsX7_givesAway wsX7_noGlove := goodIn_r _ [9, 10, 11, 12, 8, 13, 26, 27, 28, 29, 30, 31, 32, 33, 34, 35, 36, 37, 38, 39, 40, 41, 42, 43, 44, 45, 46, 47, 48, 49, 50, 51, 52, 53, 54, 55, 56] (by decide +kernel) (by decide +kernel)
set_option maxRecDepth 20000 in
theorem gX7_givesAway_X7_noGlove : GoodIn wsX7_givesAway (wsV RX7 125 RX7 yX7_noGlove wsX7_noGlove) := goodIn_app (goodIn_of _ (by decide +kernel)) ggX7_givesAway_X7_noGlove
set_option maxRecDepth 20000 in
theorem ggX7_givesAway_X7_isWorn : GoodIn wsX7_givesAway wsX7_isWorn := goodIn_r _ [17] (by decide +kernel) (by decide +kernel)
set_option maxRecDepth 20000 in
theorem gX7_givesAway_X7_isWorn : GoodIn wsX7_givesAway (wsV RX7 109 RX7 yX7_isWorn wsX7_isWorn) := goodIn_app (goodIn_of _ (by decide +kernel)) ggX7_givesAway_X7_isWorn
set_option maxRecDepth 20000 in
theorem ggX7_givesAway_X7_doesOn : GoodIn wsX7_givesAway wsX7_doesOn := goodIn_r _ [21, 22, 4, 23, 24, 8, 25, 26, 27, 28, 29, 30, 31, 32, 33, 34, 35, 36, 37, 38, 39, 40, 41, 42, 43, 44, 45, 46, 47, 48, 49, 50, 51, 52, 53, 54, 55, 56] (by decide +kernel) (by decide +kernel)
set_option maxRecDepth 20000 in
theorem gX7_givesAway_X7_doesOn : GoodIn wsX7_givesAway (wsV RX7 105 RX7 yX7_doesOn wsX7_doesOn) := goodIn_app (goodIn_of _ (by decide +kernel)) ggX7_givesAway_X7_doesOn
theorem dX7_givesAway_0 : decode cX7_givesAway 0 = .ok (.aload_n 0, 1) := by decide +kernel
theorem dX7_givesAway_1 : decode cX7_givesAway 1 = .ok (.iconst 0, 1) := by decide +kernel
theorem dX7_givesAway_2 : decode cX7_givesAway 2 = .ok (.putfield 50, 3) := by decide +kernel
theorem dX7_givesAway_5 : decode cX7_givesAway 5 = .ok (.aload_n 0, 1) := by decide +kernel
theorem dX7_givesAway_6 : decode cX7_givesAway 6 = .ok (.iload_n 1, 1) := by decide +kernel
theorem dX7_givesAway_7 : decode cX7_givesAway 7 = .ok (.invokevirtual 125, 3) := by decide +kernel
theorem dX7_givesAway_10 : decode cX7_givesAway 10 = .ok (.ifCond .eq 5, 3) := by decide +kernel
theorem dX7_givesAway_13 : decode cX7_givesAway 13 = .ok (.iconst (-1), 1) := by decide +kernel
theorem dX7_givesAway_14 : decode cX7_givesAway 14 = .ok (.ireturn, 1) := by decide +kernel
theorem dX7_givesAway_15 : decode cX7_givesAway 15 = .ok (.aload_n 0, 1) := by decide +kernel
theorem dX7_givesAway_16 : decode cX7_givesAway 16 = .ok (.aload_n 0, 1) := by decide +kernel
theorem dX7_givesAway_17 : decode cX7_givesAway 17 = .ok (.getfield 25, 3) := by decide +kernel
theorem dX7_givesAway_20 : decode cX7_givesAway 20 = .ok (.iload_n 1, 1) := by decide +kernel
theorem dX7_givesAway_21 : decode cX7_givesAway 21 = .ok (.invokevirtual 109, 3) := by decide +kernel
theorem dX7_givesAway_24 : decode cX7_givesAway 24 = .ok (.ifCond .eq 6, 3) := by decide +kernel
theorem dX7_givesAway_27 : decode cX7_givesAway 27 = .ok (.bipush (-3), 2) := by decide +kernel
theorem dX7_givesAway_29 : decode cX7_givesAway 29 = .ok (.ireturn, 1) := by decide +kernel
theorem dX7_givesAway_30 : decode cX7_givesAway 30 = .ok (.iconst 0, 1) := by decide +kernel
theorem dX7_givesAway_31 : decode cX7_givesAway 31 = .ok (.istore_n 2, 1) := by decide +kernel
theorem dX7_givesAway_32 : decode cX7_givesAway 32 = .ok (.iconst 0, 1) := by decide +kernel
theorem dX7_givesAway_33 : decode cX7_givesAway 33 = .ok (.istore_n 3, 1) := by decide +kernel
theorem dX7_givesAway_34 : decode cX7_givesAway 34 = .ok (.iload_n 3, 1) := by decide +kernel
theorem dX7_givesAway_35 : decode cX7_givesAway 35 = .ok (.aload_n 0, 1) := by decide +kernel
theorem dX7_givesAway_36 : decode cX7_givesAway 36 = .ok (.getfield 54, 3) := by decide +kernel
theorem dX7_givesAway_39 : decode cX7_givesAway 39 = .ok (.if_icmp .ge 102, 3) := by decide +kernel
theorem dX7_givesAway_42 : decode cX7_givesAway 42 = .ok (.aload_n 0, 1) := by decide +kernel
theorem dX7_givesAway_43 : decode cX7_givesAway 43 = .ok (.aload_n 0, 1) := by decide +kernel
theorem dX7_givesAway_44 : decode cX7_givesAway 44 = .ok (.getfield 25, 3) := by decide +kernel
theorem dX7_givesAway_47 : decode cX7_givesAway 47 = .ok (.iload_n 1, 1) := by decide +kernel
theorem dX7_givesAway_48 : decode cX7_givesAway 48 = .ok (.iload_n 3, 1) := by decide +kernel
theorem dX7_givesAway_49 : decode cX7_givesAway 49 = .ok (.invokevirtual 105, 3) := by decide +kernel
theorem dX7_givesAway_52 : decode cX7_givesAway 52 = .ok (.istore 4, 2) := by decide +kernel
theorem dX7_givesAway_54 : decode cX7_givesAway 54 = .ok (.iconst 0, 1) := by decide +kernel
theorem dX7_givesAway_55 : decode cX7_givesAway 55 = .ok (.istore 5, 2) := by decide +kernel
theorem dX7_givesAway_57 : decode cX7_givesAway 57 = .ok (.iconst 0, 1) := by decide +kernel
theorem dX7_givesAway_58 : decode cX7_givesAway 58 = .ok (.istore 6, 2) := by decide +kernel
theorem dX7_givesAway_60 : decode cX7_givesAway 60 = .ok (.iload 6, 2) := by decide +kernel
theorem dX7_givesAway_62 : decode cX7_givesAway 62 = .ok (.aload_n 0, 1) := by decide +kernel
theorem dX7_givesAway_63 : decode cX7_givesAway 63 = .ok (.getfield 54, 3) := by decide +kernel
theorem dX7_givesAway_66 : decode cX7_givesAway 66 = .ok (.if_icmp .ge 41, 3) := by decide +kernel
theorem dX7_givesAway_69 : decode cX7_givesAway 69 = .ok (.iload 5, 2) := by decide +kernel
theorem dX7_givesAway_71 : decode cX7_givesAway 71 = .ok (.ifCond .ne 23, 3) := by decide +kernel
theorem dX7_givesAway_74 : decode cX7_givesAway 74 = .ok (.iload 6, 2) := by decide +kernel
theorem dX7_givesAway_76 : decode cX7_givesAway 76 = .ok (.iload_n 3, 1) := by decide +kernel
theorem dX7_givesAway_77 : decode cX7_givesAway 77 = .ok (.if_icmp .eq 21, 3) := by decide +kernel
theorem dX7_givesAway_80 : decode cX7_givesAway 80 = .ok (.aload_n 0, 1) := by decide +kernel
theorem dX7_givesAway_81 : decode cX7_givesAway 81 = .ok (.getfield 13, 3) := by decide +kernel
theorem dX7_givesAway_84 : decode cX7_givesAway 84 = .ok (.iconst 3, 1) := by decide +kernel
theorem dX7_givesAway_85 : decode cX7_givesAway 85 = .ok (.iload 6, 2) := by decide +kernel
theorem dX7_givesAway_87 : decode cX7_givesAway 87 = .ok (.imul, 1) := by decide +kernel
theorem dX7_givesAway_88 : decode cX7_givesAway 88 = .ok (.iaload, 1) := by decide +kernel
theorem dX7_givesAway_89 : decode cX7_givesAway 89 = .ok (.iload 4, 2) := by decide +kernel
theorem dX7_givesAway_91 : decode cX7_givesAway 91 = .ok (.if_icmp .ne 7, 3) := by decide +kernel
theorem dX7_givesAway_94 : decode cX7_givesAway 94 = .ok (.iconst 1, 1) := by decide +kernel
theorem dX7_givesAway_95 : decode cX7_givesAway 95 = .ok (.goto 4, 3) := by decide +kernel
theorem dX7_givesAway_98 : decode cX7_givesAway 98 = .ok (.iconst 0, 1) := by decide +kernel
theorem dX7_givesAway_99 : decode cX7_givesAway 99 = .ok (.istore 5, 2) := by decide +kernel
theorem dX7_givesAway_101 : decode cX7_givesAway 101 = .ok (.iinc 6 1, 3) := by decide +kernel
theorem dX7_givesAway_104 : decode cX7_givesAway 104 = .ok (.goto (-44), 3) := by decide +kernel
theorem dX7_givesAway_107 : decode cX7_givesAway 107 = .ok (.iload_n 2, 1) := by decide +kernel
theorem dX7_givesAway_108 : decode cX7_givesAway 108 = .ok (.iload 5, 2) := by decide +kernel
theorem dX7_givesAway_110 : decode cX7_givesAway 110 = .ok (.ifCond .eq 22, 3) := by decide +kernel
theorem dX7_givesAway_113 : decode cX7_givesAway 113 = .ok (.iload 4, 2) := by decide +kernel
theorem dX7_givesAway_115 : decode cX7_givesAway 115 = .ok (.aload_n 0, 1) := by decide +kernel
theorem dX7_givesAway_116 : decode cX7_givesAway 116 = .ok (.getfield 13, 3) := by decide +kernel
theorem dX7_givesAway_119 : decode cX7_givesAway 119 = .ok (.iconst 3, 1) := by decide +kernel
theorem dX7_givesAway_120 : decode cX7_givesAway 120 = .ok (.iload_n 3, 1) := by decide +kernel
theorem dX7_givesAway_121 : decode cX7_givesAway 121 = .ok (.imul, 1) := by decide +kernel
theorem dX7_givesAway_122 : decode cX7_givesAway 122 = .ok (.iaload, 1) := by decide +kernel
theorem dX7_givesAway_123 : decode cX7_givesAway 123 = .ok (.if_icmp .eq 9, 3) := by decide +kernel
theorem dX7_givesAway_126 : decode cX7_givesAway 126 = .ok (.iconst 1, 1) := by decide +kernel
theorem dX7_givesAway_127 : decode cX7_givesAway 127 = .ok (.iload_n 3, 1) := by decide +kernel
theorem dX7_givesAway_128 : decode cX7_givesAway 128 = .ok (.ishl, 1) := by decide +kernel
theorem dX7_givesAway_129 : decode cX7_givesAway 129 = .ok (.goto 4, 3) := by decide +kernel
theorem dX7_givesAway_132 : decode cX7_givesAway 132 = .ok (.iconst 0, 1) := by decide +kernel
theorem dX7_givesAway_133 : decode cX7_givesAway 133 = .ok (.ior, 1) := by decide +kernel
theorem dX7_givesAway_134 : decode cX7_givesAway 134 = .ok (.istore_n 2, 1) := by decide +kernel
theorem dX7_givesAway_135 : decode cX7_givesAway 135 = .ok (.iinc 3 1, 3) := by decide +kernel
theorem dX7_givesAway_138 : decode cX7_givesAway 138 = .ok (.goto (-104), 3) := by decide +kernel
theorem dX7_givesAway_141 : decode cX7_givesAway 141 = .ok (.iload_n 2, 1) := by decide +kernel
theorem dX7_givesAway_142 : decode cX7_givesAway 142 = .ok (.ireturn, 1) := by decide +kernel
theorem dX7_leftOf_0 : decode cX7_leftOf 0 = .ok (.aload_n 0, 1) := by decide +kernel
theorem dX7_leftOf_1 : decode cX7_leftOf 1 = .ok (.getfield 25, 3) := by decide +kernel
theorem dX7_leftOf_4 : decode cX7_leftOf 4 = .ok (.iconst 5, 1) := by decide +kernel
theorem dX7_leftOf_5 : decode cX7_leftOf 5 = .ok (.iload_n 1, 1) := by decide +kernel
theorem dX7_leftOf_6 : decode cX7_leftOf 6 = .ok (.imul, 1) := by decide +kernel
theorem dX7_leftOf_7 : decode cX7_leftOf 7 = .ok (.iaload, 1) := by decide +kernel
theorem dX7_leftOf_8 : decode cX7_leftOf 8 = .ok (.iload_n 2, 1) := by decide +kernel
theorem dX7_leftOf_9 : decode cX7_leftOf 9 = .ok (.isub, 1) := by decide +kernel
theorem dX7_leftOf_10 : decode cX7_leftOf 10 = .ok (.istore_n 3, 1) := by decide +kernel
theorem dX7_leftOf_11 : decode cX7_leftOf 11 = .ok (.iload_n 3, 1) := by decide +kernel
theorem dX7_leftOf_12 : decode cX7_leftOf 12 = .ok (.ifCond .gt 7, 3) := by decide +kernel
theorem dX7_leftOf_15 : decode cX7_leftOf 15 = .ok (.iconst 0, 1) := by decide +kernel
theorem dX7_leftOf_16 : decode cX7_leftOf 16 = .ok (.goto 13, 3) := by decide +kernel
theorem dX7_leftOf_19 : decode cX7_leftOf 19 = .ok (.aload_n 0, 1) := by decide +kernel
theorem dX7_leftOf_20 : decode cX7_leftOf 20 = .ok (.getfield 25, 3) := by decide +kernel
theorem dX7_leftOf_23 : decode cX7_leftOf 23 = .ok (.iconst 5, 1) := by decide +kernel
theorem dX7_leftOf_24 : decode cX7_leftOf 24 = .ok (.iload_n 1, 1) := by decide +kernel
theorem dX7_leftOf_25 : decode cX7_leftOf 25 = .ok (.imul, 1) := by decide +kernel
theorem dX7_leftOf_26 : decode cX7_leftOf 26 = .ok (.iload_n 3, 1) := by decide +kernel
theorem dX7_leftOf_27 : decode cX7_leftOf 27 = .ok (.iadd, 1) := by decide +kernel
theorem dX7_leftOf_28 : decode cX7_leftOf 28 = .ok (.iaload, 1) := by decide +kernel
theorem dX7_leftOf_29 : decode cX7_leftOf 29 = .ok (.ireturn, 1) := by decide +kernel
set_option maxRecDepth 20000 in
theorem ggX7_leftBy_X7_noGlove : GoodIn wsX7_leftBy wsX7_noGlove := goodIn_r _ [7, 8, 9, 10, 6, 11, 17, 18, 19, 20, 21, 22, 23, 24, 25, 26, 27, 28, 29, 30, 31, 32, 33, 34, 35, 36, 37, 38, 39, 40, 41, 42, 43, 44, 45, 46, 47] (by decide +kernel) (by decide +kernel)
set_option maxRecDepth 20000 in
theorem gX7_leftBy_X7_noGlove : GoodIn wsX7_leftBy (wsV RX7 125 RX7 yX7_noGlove wsX7_noGlove) := goodIn_app (goodIn_of _ (by decide +kernel)) ggX7_leftBy_X7_noGlove
set_option maxRecDepth 20000 in
theorem ggX7_leftBy_X7_in : GoodIn wsX7_leftBy wsX7_in := goodIn_r _ [11] (by decide +kernel) (by decide +kernel)
set_option maxRecDepth 20000 in
theorem gX7_leftBy_X7_in : GoodIn wsX7_leftBy (va_wsS RX7 57 yX7_in wsX7_in) := goodIn_app (goodIn_of _ (by decide +kernel)) ggX7_leftBy_X7_in
set_option maxRecDepth 20000 in
theorem ggX7_leftBy_X7_leftOf : GoodIn wsX7_leftBy wsX7_leftOf := goodIn_r _ [15, 16, 17, 18, 19, 20, 21, 22, 23, 24, 25, 26, 27, 28, 29, 30, 31, 32, 33, 34, 35, 36, 37, 38, 39, 40, 41, 42, 43, 44, 45, 46, 47] (by decide +kernel) (by decide +kernel)
set_option maxRecDepth 20000 in
theorem gX7_leftBy_X7_leftOf : GoodIn wsX7_leftBy (wsV RX7 181 RX7 yX7_leftOf wsX7_leftOf) := goodIn_app (goodIn_of _ (by decide +kernel)) ggX7_leftBy_X7_leftOf
theorem dX7_leftBy_0 : decode cX7_leftBy 0 = .ok (.aload_n 0, 1) := by decide +kernel
theorem dX7_leftBy_1 : decode cX7_leftBy 1 = .ok (.iconst 0, 1) := by decide +kernel
theorem dX7_leftBy_2 : decode cX7_leftBy 2 = .ok (.putfield 50, 3) := by decide +kernel
theorem dX7_leftBy_5 : decode cX7_leftBy 5 = .ok (.aload_n 0, 1) := by decide +kernel
theorem dX7_leftBy_6 : decode cX7_leftBy 6 = .ok (.iload_n 1, 1) := by decide +kernel
theorem dX7_leftBy_7 : decode cX7_leftBy 7 = .ok (.invokevirtual 125, 3) := by decide +kernel
theorem dX7_leftBy_10 : decode cX7_leftBy 10 = .ok (.ifCond .eq 5, 3) := by decide +kernel
theorem dX7_leftBy_13 : decode cX7_leftBy 13 = .ok (.iconst (-1), 1) := by decide +kernel
theorem dX7_leftBy_14 : decode cX7_leftBy 14 = .ok (.ireturn, 1) := by decide +kernel
theorem dX7_leftBy_15 : decode cX7_leftBy 15 = .ok (.iload_n 2, 1) := by decide +kernel
theorem dX7_leftBy_16 : decode cX7_leftBy 16 = .ok (.i2l, 1) := by decide +kernel
theorem dX7_leftBy_17 : decode cX7_leftBy 17 = .ok (.lconst 0, 1) := by decide +kernel
theorem dX7_leftBy_18 : decode cX7_leftBy 18 = .ok (.ldc2_w 179, 3) := by decide +kernel
theorem dX7_leftBy_21 : decode cX7_leftBy 21 = .ok (.invokestatic 57, 3) := by decide +kernel
theorem dX7_leftBy_24 : decode cX7_leftBy 24 = .ok (.ifCond .eq 12, 3) := by decide +kernel
theorem dX7_leftBy_27 : decode cX7_leftBy 27 = .ok (.aload_n 0, 1) := by decide +kernel
theorem dX7_leftBy_28 : decode cX7_leftBy 28 = .ok (.iload_n 1, 1) := by decide +kernel
theorem dX7_leftBy_29 : decode cX7_leftBy 29 = .ok (.iload_n 2, 1) := by decide +kernel
theorem dX7_leftBy_30 : decode cX7_leftBy 30 = .ok (.invokevirtual 181, 3) := by decide +kernel
theorem dX7_leftBy_33 : decode cX7_leftBy 33 = .ok (.goto 5, 3) := by decide +kernel
theorem dX7_leftBy_36 : decode cX7_leftBy 36 = .ok (.bipush (-2), 2) := by decide +kernel
theorem dX7_leftBy_38 : decode cX7_leftBy 38 = .ok (.ireturn, 1) := by decide +kernel
set_option maxRecDepth 20000 in
theorem ggX7_washes_X7_noGlove : GoodIn wsX7_washes wsX7_noGlove := goodIn_r _ [7, 8, 9, 10, 6, 11, 17, 18, 19, 20, 21, 22, 23, 24, 25, 26, 27, 28, 29, 30, 31, 32, 33, 34, 35, 36, 37, 38, 39, 40, 41, 42, 43, 44, 45, 46, 47] (by decide +kernel) (by decide +kernel)
set_option maxRecDepth 20000 in
theorem gX7_washes_X7_noGlove : GoodIn wsX7_washes (wsV RX7 125 RX7 yX7_noGlove wsX7_noGlove) := goodIn_app (goodIn_of _ (by decide +kernel)) ggX7_washes_X7_noGlove
set_option maxRecDepth 20000 in
theorem ggX7_washes_X7_in : GoodIn wsX7_washes wsX7_in := goodIn_r _ [11] (by decide +kernel) (by decide +kernel)
set_option maxRecDepth 20000 in
theorem gX7_washes_X7_in : GoodIn wsX7_washes (va_wsS RX7 57 yX7_in wsX7_in) := goodIn_app (goodIn_of _ (by decide +kernel)) ggX7_washes_X7_in
set_option maxRecDepth 20000 in
theorem ggX7_washes_X7_leftOf : GoodIn wsX7_washes wsX7_leftOf := goodIn_r _ [15, 16, 17, 18, 19, 20, 21, 22, 23, 24, 25, 26, 27, 28, 29, 30, 31, 32, 33, 34, 35, 36, 37, 38, 39, 40, 41, 42, 43, 44, 45, 46, 47] (by decide +kernel) (by decide +kernel)
set_option maxRecDepth 20000 in
theorem gX7_washes_X7_leftOf : GoodIn wsX7_washes (wsV RX7 181 RX7 yX7_leftOf wsX7_leftOf) := goodIn_app (goodIn_of _ (by decide +kernel)) ggX7_washes_X7_leftOf
theorem dX7_washes_0 : decode cX7_washes 0 = .ok (.aload_n 0, 1) := by decide +kernel
theorem dX7_washes_1 : decode cX7_washes 1 = .ok (.iconst 0, 1) := by decide +kernel
theorem dX7_washes_2 : decode cX7_washes 2 = .ok (.putfield 50, 3) := by decide +kernel
theorem dX7_washes_5 : decode cX7_washes 5 = .ok (.aload_n 0, 1) := by decide +kernel
theorem dX7_washes_6 : decode cX7_washes 6 = .ok (.iload_n 1, 1) := by decide +kernel
theorem dX7_washes_7 : decode cX7_washes 7 = .ok (.invokevirtual 125, 3) := by decide +kernel
theorem dX7_washes_10 : decode cX7_washes 10 = .ok (.ifCond .eq 5, 3) := by decide +kernel
theorem dX7_washes_13 : decode cX7_washes 13 = .ok (.iconst (-1), 1) := by decide +kernel
theorem dX7_washes_14 : decode cX7_washes 14 = .ok (.ireturn, 1) := by decide +kernel
theorem dX7_washes_15 : decode cX7_washes 15 = .ok (.iload_n 2, 1) := by decide +kernel
theorem dX7_washes_16 : decode cX7_washes 16 = .ok (.i2l, 1) := by decide +kernel
theorem dX7_washes_17 : decode cX7_washes 17 = .ok (.lconst 0, 1) := by decide +kernel
theorem dX7_washes_18 : decode cX7_washes 18 = .ok (.ldc2_w 160, 3) := by decide +kernel
theorem dX7_washes_21 : decode cX7_washes 21 = .ok (.invokestatic 57, 3) := by decide +kernel
theorem dX7_washes_24 : decode cX7_washes 24 = .ok (.ifCond .ne 6, 3) := by decide +kernel
theorem dX7_washes_27 : decode cX7_washes 27 = .ok (.bipush (-2), 2) := by decide +kernel
theorem dX7_washes_29 : decode cX7_washes 29 = .ok (.ireturn, 1) := by decide +kernel
theorem dX7_washes_30 : decode cX7_washes 30 = .ok (.iconst 0, 1) := by decide +kernel
theorem dX7_washes_31 : decode cX7_washes 31 = .ok (.istore_n 3, 1) := by decide +kernel
theorem dX7_washes_32 : decode cX7_washes 32 = .ok (.iload_n 3, 1) := by decide +kernel
theorem dX7_washes_33 : decode cX7_washes 33 = .ok (.iconst 3, 1) := by decide +kernel
theorem dX7_washes_34 : decode cX7_washes 34 = .ok (.if_icmp .gt 21, 3) := by decide +kernel
theorem dX7_washes_37 : decode cX7_washes 37 = .ok (.aload_n 0, 1) := by decide +kernel
theorem dX7_washes_38 : decode cX7_washes 38 = .ok (.iload_n 1, 1) := by decide +kernel
theorem dX7_washes_39 : decode cX7_washes 39 = .ok (.iload_n 3, 1) := by decide +kernel
theorem dX7_washes_40 : decode cX7_washes 40 = .ok (.invokevirtual 181, 3) := by decide +kernel
theorem dX7_washes_43 : decode cX7_washes 43 = .ok (.iload_n 2, 1) := by decide +kernel
theorem dX7_washes_44 : decode cX7_washes 44 = .ok (.if_icmp .ne 5, 3) := by decide +kernel
theorem dX7_washes_47 : decode cX7_washes 47 = .ok (.iload_n 3, 1) := by decide +kernel
theorem dX7_washes_48 : decode cX7_washes 48 = .ok (.ireturn, 1) := by decide +kernel
theorem dX7_washes_49 : decode cX7_washes 49 = .ok (.iinc 3 1, 3) := by decide +kernel
theorem dX7_washes_52 : decode cX7_washes 52 = .ok (.goto (-20), 3) := by decide +kernel
theorem dX7_washes_55 : decode cX7_washes 55 = .ok (.bipush (-9), 2) := by decide +kernel
theorem dX7_washes_57 : decode cX7_washes 57 = .ok (.ireturn, 1) := by decide +kernel
set_option maxRecDepth 20000 in
theorem ggX7_both_X7_noGlove : GoodIn wsX7_both wsX7_noGlove := goodIn_r _ [7, 8, 9, 10, 6, 11, 15, 16, 17, 18, 19, 20, 21, 22, 23, 24, 25, 26, 27, 28, 29, 30, 31, 32, 33, 34, 35, 36, 37, 38, 39, 40, 41, 42, 43, 44, 45] (by decide +kernel) (by decide +kernel)
set_option maxRecDepth 20000 in
theorem gX7_both_X7_noGlove : GoodIn wsX7_both (wsV RX7 125 RX7 yX7_noGlove wsX7_noGlove) := goodIn_app (goodIn_of _ (by decide +kernel)) ggX7_both_X7_noGlove
set_option maxRecDepth 20000 in
theorem ggX7_both_X7_lastOf : GoodIn wsX7_both wsX7_lastOf := goodIn_r _ [14] (by decide +kernel) (by decide +kernel)
set_option maxRecDepth 20000 in
theorem gX7_both_X7_lastOf : GoodIn wsX7_both (va_wsS RX7 97 yX7_lastOf wsX7_lastOf) := goodIn_app (goodIn_of _ (by decide +kernel)) ggX7_both_X7_lastOf
theorem dX7_both_0 : decode cX7_both 0 = .ok (.aload_n 0, 1) := by decide +kernel
theorem dX7_both_1 : decode cX7_both 1 = .ok (.iconst 0, 1) := by decide +kernel
theorem dX7_both_2 : decode cX7_both 2 = .ok (.putfield 50, 3) := by decide +kernel
theorem dX7_both_5 : decode cX7_both 5 = .ok (.aload_n 0, 1) := by decide +kernel
theorem dX7_both_6 : decode cX7_both 6 = .ok (.iload_n 1, 1) := by decide +kernel
theorem dX7_both_7 : decode cX7_both 7 = .ok (.invokevirtual 125, 3) := by decide +kernel
theorem dX7_both_10 : decode cX7_both 10 = .ok (.ifCond .ne 11, 3) := by decide +kernel
theorem dX7_both_13 : decode cX7_both 13 = .ok (.aload_n 0, 1) := by decide +kernel
theorem dX7_both_14 : decode cX7_both 14 = .ok (.iload_n 2, 1) := by decide +kernel
theorem dX7_both_15 : decode cX7_both 15 = .ok (.invokevirtual 125, 3) := by decide +kernel
theorem dX7_both_18 : decode cX7_both 18 = .ok (.ifCond .eq 7, 3) := by decide +kernel
theorem dX7_both_21 : decode cX7_both 21 = .ok (.iconst (-1), 1) := by decide +kernel
theorem dX7_both_22 : decode cX7_both 22 = .ok (.goto 20, 3) := by decide +kernel
theorem dX7_both_25 : decode cX7_both 25 = .ok (.aload_n 0, 1) := by decide +kernel
theorem dX7_both_26 : decode cX7_both 26 = .ok (.getfield 25, 3) := by decide +kernel
theorem dX7_both_29 : decode cX7_both 29 = .ok (.iload_n 1, 1) := by decide +kernel
theorem dX7_both_30 : decode cX7_both 30 = .ok (.invokestatic 97, 3) := by decide +kernel
theorem dX7_both_33 : decode cX7_both 33 = .ok (.aload_n 0, 1) := by decide +kernel
theorem dX7_both_34 : decode cX7_both 34 = .ok (.getfield 25, 3) := by decide +kernel
theorem dX7_both_37 : decode cX7_both 37 = .ok (.iload_n 2, 1) := by decide +kernel
theorem dX7_both_38 : decode cX7_both 38 = .ok (.invokestatic 97, 3) := by decide +kernel
theorem dX7_both_41 : decode cX7_both 41 = .ok (.ixor, 1) := by decide +kernel
theorem dX7_both_42 : decode cX7_both 42 = .ok (.ireturn, 1) := by decide +kernel
set_option maxRecDepth 20000 in
theorem ggX7_either_X7_noGlove : GoodIn wsX7_either wsX7_noGlove := goodIn_r _ [7, 8, 9, 10, 6, 11, 15, 16, 17, 18, 19, 20, 21, 22, 23, 24, 25, 26, 27, 28, 29, 30, 31, 32, 33, 34, 35, 36, 37, 38, 39, 40, 41, 42, 43, 44, 45] (by decide +kernel) (by decide +kernel)
set_option maxRecDepth 20000 in
theorem gX7_either_X7_noGlove : GoodIn wsX7_either (wsV RX7 125 RX7 yX7_noGlove wsX7_noGlove) := goodIn_app (goodIn_of _ (by decide +kernel)) ggX7_either_X7_noGlove
set_option maxRecDepth 20000 in
theorem ggX7_either_X7_lastOf : GoodIn wsX7_either wsX7_lastOf := goodIn_r _ [14] (by decide +kernel) (by decide +kernel)
set_option maxRecDepth 20000 in
theorem gX7_either_X7_lastOf : GoodIn wsX7_either (va_wsS RX7 97 yX7_lastOf wsX7_lastOf) := goodIn_app (goodIn_of _ (by decide +kernel)) ggX7_either_X7_lastOf
theorem dX7_either_0 : decode cX7_either 0 = .ok (.aload_n 0, 1) := by decide +kernel
theorem dX7_either_1 : decode cX7_either 1 = .ok (.iconst 0, 1) := by decide +kernel
theorem dX7_either_2 : decode cX7_either 2 = .ok (.putfield 50, 3) := by decide +kernel
theorem dX7_either_5 : decode cX7_either 5 = .ok (.aload_n 0, 1) := by decide +kernel
theorem dX7_either_6 : decode cX7_either 6 = .ok (.iload_n 1, 1) := by decide +kernel
theorem dX7_either_7 : decode cX7_either 7 = .ok (.invokevirtual 125, 3) := by decide +kernel
theorem dX7_either_10 : decode cX7_either 10 = .ok (.ifCond .ne 11, 3) := by decide +kernel
theorem dX7_either_13 : decode cX7_either 13 = .ok (.aload_n 0, 1) := by decide +kernel
theorem dX7_either_14 : decode cX7_either 14 = .ok (.iload_n 2, 1) := by decide +kernel
theorem dX7_either_15 : decode cX7_either 15 = .ok (.invokevirtual 125, 3) := by decide +kernel
theorem dX7_either_18 : decode cX7_either 18 = .ok (.ifCond .eq 5, 3) := by decide +kernel
theorem dX7_either_21 : decode cX7_either 21 = .ok (.iconst (-1), 1) := by decide +kernel
theorem dX7_either_22 : decode cX7_either 22 = .ok (.ireturn, 1) := by decide +kernel
theorem dX7_either_23 : decode cX7_either 23 = .ok (.aload_n 0, 1) := by decide +kernel
theorem dX7_either_24 : decode cX7_either 24 = .ok (.getfield 25, 3) := by decide +kernel
theorem dX7_either_27 : decode cX7_either 27 = .ok (.iload_n 1, 1) := by decide +kernel
theorem dX7_either_28 : decode cX7_either 28 = .ok (.invokestatic 97, 3) := by decide +kernel
theorem dX7_either_31 : decode cX7_either 31 = .ok (.istore_n 3, 1) := by decide +kernel
theorem dX7_either_32 : decode cX7_either 32 = .ok (.aload_n 0, 1) := by decide +kernel
theorem dX7_either_33 : decode cX7_either 33 = .ok (.getfield 25, 3) := by decide +kernel
theorem dX7_either_36 : decode cX7_either 36 = .ok (.iload_n 2, 1) := by decide +kernel
theorem dX7_either_37 : decode cX7_either 37 = .ok (.invokestatic 97, 3) := by decide +kernel
theorem dX7_either_40 : decode cX7_either 40 = .ok (.istore 4, 2) := by decide +kernel
theorem dX7_either_42 : decode cX7_either 42 = .ok (.iload_n 3, 1) := by decide +kernel
theorem dX7_either_43 : decode cX7_either 43 = .ok (.iload_n 3, 1) := by decide +kernel
theorem dX7_either_44 : decode cX7_either 44 = .ok (.iload 4, 2) := by decide +kernel
theorem dX7_either_46 : decode cX7_either 46 = .ok (.ixor, 1) := by decide +kernel
theorem dX7_either_47 : decode cX7_either 47 = .ok (.if_icmp .eq 12, 3) := by decide +kernel
theorem dX7_either_50 : decode cX7_either 50 = .ok (.iload 4, 2) := by decide +kernel
theorem dX7_either_52 : decode cX7_either 52 = .ok (.iload_n 3, 1) := by decide +kernel
theorem dX7_either_53 : decode cX7_either 53 = .ok (.iload 4, 2) := by decide +kernel
theorem dX7_either_55 : decode cX7_either 55 = .ok (.ixor, 1) := by decide +kernel
theorem dX7_either_56 : decode cX7_either 56 = .ok (.if_icmp .ne 7, 3) := by decide +kernel
theorem dX7_either_59 : decode cX7_either 59 = .ok (.iconst 1, 1) := by decide +kernel
theorem dX7_either_60 : decode cX7_either 60 = .ok (.goto 4, 3) := by decide +kernel
theorem dX7_either_63 : decode cX7_either 63 = .ok (.iconst 0, 1) := by decide +kernel
theorem dX7_either_64 : decode cX7_either 64 = .ok (.ireturn, 1) := by decide +kernel
set_option maxRecDepth 20000 in
theorem ggX7_see_X7_noGlove : GoodIn wsX7_see wsX7_noGlove := goodIn_r _ [11, 12, 13, 14, 10, 15, 21, 22, 23, 24, 25, 26, 27, 28, 29, 30, 31, 32, 33, 34, 35, 36, 37, 38, 39, 40, 41, 42, 43, 44, 45, 46, 47, 48, 49, 50, 51] (by decide +kernel) (by decide +kernel)
set_option maxRecDepth 20000 in
theorem gX7_see_X7_noGlove : GoodIn wsX7_see (wsV RX7 125 RX7 yX7_noGlove wsX7_noGlove) := goodIn_app (goodIn_of _ (by decide +kernel)) ggX7_see_X7_noGlove
set_option maxRecDepth 20000 in
theorem ggX7_see_X7_noPerson : GoodIn wsX7_see wsX7_noPerson := goodIn_r _ [19, 20, 13, 14, 10, 15, 21, 22, 23, 24, 25, 26, 27, 28, 29, 30, 31, 32, 33, 34, 35, 36, 37, 38, 39, 40, 41, 42, 43, 44, 45, 46, 47, 48, 49, 50, 51] (by decide +kernel) (by decide +kernel)
set_option maxRecDepth 20000 in
theorem gX7_see_X7_noPerson : GoodIn wsX7_see (wsV RX7 116 RX7 yX7_noPerson wsX7_noPerson) := goodIn_app (goodIn_of _ (by decide +kernel)) ggX7_see_X7_noPerson
set_option maxRecDepth 20000 in
theorem ggX7_see_X7_in : GoodIn wsX7_see wsX7_in := goodIn_r _ [15] (by decide +kernel) (by decide +kernel)
set_option maxRecDepth 20000 in
theorem gX7_see_X7_in : GoodIn wsX7_see (va_wsS RX7 57 yX7_in wsX7_in) := goodIn_app (goodIn_of _ (by decide +kernel)) ggX7_see_X7_in
theorem dX7_see_0 : decode cX7_see 0 = .ok (.aload_n 0, 1) := by decide +kernel
theorem dX7_see_1 : decode cX7_see 1 = .ok (.iconst 0, 1) := by decide +kernel
theorem dX7_see_2 : decode cX7_see 2 = .ok (.putfield 50, 3) := by decide +kernel
theorem dX7_see_5 : decode cX7_see 5 = .ok (.aload_n 0, 1) := by decide +kernel
theorem dX7_see_6 : decode cX7_see 6 = .ok (.iload_n 1, 1) := by decide +kernel
theorem dX7_see_7 : decode cX7_see 7 = .ok (.invokevirtual 125, 3) := by decide +kernel
theorem dX7_see_10 : decode cX7_see 10 = .ok (.ifCond .ne 11, 3) := by decide +kernel
theorem dX7_see_13 : decode cX7_see 13 = .ok (.aload_n 0, 1) := by decide +kernel
theorem dX7_see_14 : decode cX7_see 14 = .ok (.iload_n 2, 1) := by decide +kernel
theorem dX7_see_15 : decode cX7_see 15 = .ok (.invokevirtual 116, 3) := by decide +kernel
theorem dX7_see_18 : decode cX7_see 18 = .ok (.ifCond .eq 5, 3) := by decide +kernel
theorem dX7_see_21 : decode cX7_see 21 = .ok (.iconst (-1), 1) := by decide +kernel
theorem dX7_see_22 : decode cX7_see 22 = .ok (.ireturn, 1) := by decide +kernel
theorem dX7_see_23 : decode cX7_see 23 = .ok (.iload_n 3, 1) := by decide +kernel
theorem dX7_see_24 : decode cX7_see 24 = .ok (.i2l, 1) := by decide +kernel
theorem dX7_see_25 : decode cX7_see 25 = .ok (.lconst 0, 1) := by decide +kernel
theorem dX7_see_26 : decode cX7_see 26 = .ok (.ldc2_w 160, 3) := by decide +kernel
theorem dX7_see_29 : decode cX7_see 29 = .ok (.invokestatic 57, 3) := by decide +kernel
theorem dX7_see_32 : decode cX7_see 32 = .ok (.ifCond .ne 6, 3) := by decide +kernel
theorem dX7_see_35 : decode cX7_see 35 = .ok (.bipush (-2), 2) := by decide +kernel
theorem dX7_see_37 : decode cX7_see 37 = .ok (.ireturn, 1) := by decide +kernel
theorem dX7_see_38 : decode cX7_see 38 = .ok (.aload_n 0, 1) := by decide +kernel
theorem dX7_see_39 : decode cX7_see 39 = .ok (.getfield 113, 3) := by decide +kernel
theorem dX7_see_42 : decode cX7_see 42 = .ok (.iconst 4, 1) := by decide +kernel
theorem dX7_see_43 : decode cX7_see 43 = .ok (.if_icmp .ne 6, 3) := by decide +kernel
theorem dX7_see_46 : decode cX7_see 46 = .ok (.bipush (-4), 2) := by decide +kernel
theorem dX7_see_48 : decode cX7_see 48 = .ok (.ireturn, 1) := by decide +kernel
theorem dX7_see_49 : decode cX7_see 49 = .ok (.aload_n 0, 1) := by decide +kernel
theorem dX7_see_50 : decode cX7_see 50 = .ok (.getfield 41, 3) := by decide +kernel
theorem dX7_see_53 : decode cX7_see 53 = .ok (.aload_n 0, 1) := by decide +kernel
theorem dX7_see_54 : decode cX7_see 54 = .ok (.getfield 113, 3) := by decide +kernel
theorem dX7_see_57 : decode cX7_see 57 = .ok (.iload_n 1, 1) := by decide +kernel
theorem dX7_see_58 : decode cX7_see 58 = .ok (.iastore, 1) := by decide +kernel
theorem dX7_see_59 : decode cX7_see 59 = .ok (.aload_n 0, 1) := by decide +kernel
theorem dX7_see_60 : decode cX7_see 60 = .ok (.getfield 44, 3) := by decide +kernel
theorem dX7_see_63 : decode cX7_see 63 = .ok (.aload_n 0, 1) := by decide +kernel
theorem dX7_see_64 : decode cX7_see 64 = .ok (.getfield 113, 3) := by decide +kernel
theorem dX7_see_67 : decode cX7_see 67 = .ok (.iload_n 2, 1) := by decide +kernel
theorem dX7_see_68 : decode cX7_see 68 = .ok (.iastore, 1) := by decide +kernel
theorem dX7_see_69 : decode cX7_see 69 = .ok (.aload_n 0, 1) := by decide +kernel
theorem dX7_see_70 : decode cX7_see 70 = .ok (.getfield 47, 3) := by decide +kernel
theorem dX7_see_73 : decode cX7_see 73 = .ok (.aload_n 0, 1) := by decide +kernel
theorem dX7_see_74 : decode cX7_see 74 = .ok (.getfield 113, 3) := by decide +kernel
theorem dX7_see_77 : decode cX7_see 77 = .ok (.iload_n 3, 1) := by decide +kernel
theorem dX7_see_78 : decode cX7_see 78 = .ok (.iastore, 1) := by decide +kernel
theorem dX7_see_79 : decode cX7_see 79 = .ok (.aload_n 0, 1) := by decide +kernel
theorem dX7_see_80 : decode cX7_see 80 = .ok (.dup, 1) := by decide +kernel
theorem dX7_see_81 : decode cX7_see 81 = .ok (.getfield 113, 3) := by decide +kernel
theorem dX7_see_84 : decode cX7_see 84 = .ok (.iconst 1, 1) := by decide +kernel
theorem dX7_see_85 : decode cX7_see 85 = .ok (.iadd, 1) := by decide +kernel
theorem dX7_see_86 : decode cX7_see 86 = .ok (.putfield 113, 3) := by decide +kernel
theorem dX7_see_89 : decode cX7_see 89 = .ok (.aload_n 0, 1) := by decide +kernel
theorem dX7_see_90 : decode cX7_see 90 = .ok (.getfield 113, 3) := by decide +kernel
theorem dX7_see_93 : decode cX7_see 93 = .ok (.ireturn, 1) := by decide +kernel
theorem dX7_unsee_0 : decode cX7_unsee 0 = .ok (.aload_n 0, 1) := by decide +kernel
theorem dX7_unsee_1 : decode cX7_unsee 1 = .ok (.iconst 0, 1) := by decide +kernel
theorem dX7_unsee_2 : decode cX7_unsee 2 = .ok (.putfield 50, 3) := by decide +kernel
theorem dX7_unsee_5 : decode cX7_unsee 5 = .ok (.aload_n 0, 1) := by decide +kernel
theorem dX7_unsee_6 : decode cX7_unsee 6 = .ok (.getfield 113, 3) := by decide +kernel
theorem dX7_unsee_9 : decode cX7_unsee 9 = .ok (.istore_n 1, 1) := by decide +kernel
theorem dX7_unsee_10 : decode cX7_unsee 10 = .ok (.aload_n 0, 1) := by decide +kernel
theorem dX7_unsee_11 : decode cX7_unsee 11 = .ok (.iconst 0, 1) := by decide +kernel
theorem dX7_unsee_12 : decode cX7_unsee 12 = .ok (.putfield 113, 3) := by decide +kernel
theorem dX7_unsee_15 : decode cX7_unsee 15 = .ok (.iload_n 1, 1) := by decide +kernel
theorem dX7_unsee_16 : decode cX7_unsee 16 = .ok (.ireturn, 1) := by decide +kernel
theorem dX7_looks_0 : decode cX7_looks 0 = .ok (.aload_n 0, 1) := by decide +kernel
theorem dX7_looks_1 : decode cX7_looks 1 = .ok (.getfield 41, 3) := by decide +kernel
theorem dX7_looks_4 : decode cX7_looks 4 = .ok (.iload_n 1, 1) := by decide +kernel
theorem dX7_looks_5 : decode cX7_looks 5 = .ok (.iaload, 1) := by decide +kernel
theorem dX7_looks_6 : decode cX7_looks 6 = .ok (.iload_n 2, 1) := by decide +kernel
theorem dX7_looks_7 : decode cX7_looks 7 = .ok (.if_icmp .ne 20, 3) := by decide +kernel
theorem dX7_looks_10 : decode cX7_looks 10 = .ok (.aload_n 0, 1) := by decide +kernel
theorem dX7_looks_11 : decode cX7_looks 11 = .ok (.getfield 44, 3) := by decide +kernel
theorem dX7_looks_14 : decode cX7_looks 14 = .ok (.iload_n 1, 1) := by decide +kernel
theorem dX7_looks_15 : decode cX7_looks 15 = .ok (.iaload, 1) := by decide +kernel
theorem dX7_looks_16 : decode cX7_looks 16 = .ok (.aload_n 0, 1) := by decide +kernel
theorem dX7_looks_17 : decode cX7_looks 17 = .ok (.getfield 54, 3) := by decide +kernel
theorem dX7_looks_20 : decode cX7_looks 20 = .ok (.if_icmp .ge 7, 3) := by decide +kernel
theorem dX7_looks_23 : decode cX7_looks 23 = .ok (.iconst 1, 1) := by decide +kernel
theorem dX7_looks_24 : decode cX7_looks 24 = .ok (.goto 4, 3) := by decide +kernel
theorem dX7_looks_27 : decode cX7_looks 27 = .ok (.iconst 0, 1) := by decide +kernel
theorem dX7_looks_28 : decode cX7_looks 28 = .ok (.ireturn, 1) := by decide +kernel
set_option maxRecDepth 20000 in
theorem ggX7_findWore_X7_looks : GoodIn wsX7_findWore wsX7_looks := goodIn_r _ [12, 13, 6, 4, 39, 40, 41, 42, 43, 44, 45, 46, 47, 48, 49, 50, 51, 52, 53, 54, 55, 56, 57, 58, 59, 60, 61, 62, 63, 64, 65, 66, 67, 68, 69] (by decide +kernel) (by decide +kernel)
set_option maxRecDepth 20000 in
theorem gX7_findWore_X7_looks : GoodIn wsX7_findWore (wsV RX7 184 RX7 yX7_looks wsX7_looks) := goodIn_app (goodIn_of _ (by decide +kernel)) ggX7_findWore_X7_looks
set_option maxRecDepth 20000 in
theorem ggX7_findWore_X7_power : GoodIn wsX7_findWore wsX7_power := goodIn_r _ [16] (by decide +kernel) (by decide +kernel)
set_option maxRecDepth 20000 in
theorem gX7_findWore_X7_power : GoodIn wsX7_findWore (va_wsS RX7 138 yX7_power wsX7_power) := goodIn_app (goodIn_of _ (by decide +kernel)) ggX7_findWore_X7_power
set_option maxRecDepth 20000 in
theorem ggX7_findWore_X7_begin : GoodIn wsX7_findWore wsX7_begin := goodIn_r _ [20, 5, 21, 39, 40, 41, 42, 43, 44, 45, 46, 47, 48, 49, 50, 51, 52, 53, 54, 55, 56, 57, 58, 59, 60, 61, 62, 63, 64, 65, 66, 67, 68, 69] (by decide +kernel) (by decide +kernel)
set_option maxRecDepth 20000 in
theorem gX7_findWore_X7_begin : GoodIn wsX7_findWore (wsV RX7 135 RX7 yX7_begin wsX7_begin) := goodIn_app (goodIn_of _ (by decide +kernel)) ggX7_findWore_X7_begin
set_option maxRecDepth 20000 in
theorem ggX7_findWore_X7_goHand : GoodIn wsX7_findWore wsX7_goHand := goodIn_r _ [25, 26, 27, 28, 29, 11, 30, 31, 32, 33, 34, 35, 36, 37, 38, 39, 40, 41, 42, 43, 44, 45, 46, 47, 48, 49, 50, 51, 52, 53, 54, 55, 56, 57, 58, 59, 60, 61, 62, 63, 64, 65, 66, 67, 68, 69] (by decide +kernel) (by decide +kernel)
set_option maxRecDepth 20000 in
theorem gX7_findWore_X7_goHand : GoodIn wsX7_findWore (wsV RX7 141 RX7 yX7_goHand wsX7_goHand) := goodIn_app (goodIn_of _ (by decide +kernel)) ggX7_findWore_X7_goHand
theorem dX7_findWore_0 : decode cX7_findWore 0 = .ok (.iconst 0, 1) := by decide +kernel
theorem dX7_findWore_1 : decode cX7_findWore 1 = .ok (.istore_n 2, 1) := by decide +kernel
theorem dX7_findWore_2 : decode cX7_findWore 2 = .ok (.iconst 0, 1) := by decide +kernel
theorem dX7_findWore_3 : decode cX7_findWore 3 = .ok (.istore_n 3, 1) := by decide +kernel
theorem dX7_findWore_4 : decode cX7_findWore 4 = .ok (.iload_n 3, 1) := by decide +kernel
theorem dX7_findWore_5 : decode cX7_findWore 5 = .ok (.aload_n 0, 1) := by decide +kernel
theorem dX7_findWore_6 : decode cX7_findWore 6 = .ok (.getfield 113, 3) := by decide +kernel
theorem dX7_findWore_9 : decode cX7_findWore 9 = .ok (.if_icmp .ge 26, 3) := by decide +kernel
theorem dX7_findWore_12 : decode cX7_findWore 12 = .ok (.iload_n 2, 1) := by decide +kernel
theorem dX7_findWore_13 : decode cX7_findWore 13 = .ok (.aload_n 0, 1) := by decide +kernel
theorem dX7_findWore_14 : decode cX7_findWore 14 = .ok (.iload_n 3, 1) := by decide +kernel
theorem dX7_findWore_15 : decode cX7_findWore 15 = .ok (.iload_n 1, 1) := by decide +kernel
theorem dX7_findWore_16 : decode cX7_findWore 16 = .ok (.invokevirtual 184, 3) := by decide +kernel
theorem dX7_findWore_19 : decode cX7_findWore 19 = .ok (.ifCond .eq 7, 3) := by decide +kernel
theorem dX7_findWore_22 : decode cX7_findWore 22 = .ok (.iconst 1, 1) := by decide +kernel
theorem dX7_findWore_23 : decode cX7_findWore 23 = .ok (.goto 4, 3) := by decide +kernel
theorem dX7_findWore_26 : decode cX7_findWore 26 = .ok (.iconst 0, 1) := by decide +kernel
theorem dX7_findWore_27 : decode cX7_findWore 27 = .ok (.iadd, 1) := by decide +kernel
theorem dX7_findWore_28 : decode cX7_findWore 28 = .ok (.istore_n 2, 1) := by decide +kernel
theorem dX7_findWore_29 : decode cX7_findWore 29 = .ok (.iinc 3 1, 3) := by decide +kernel
theorem dX7_findWore_32 : decode cX7_findWore 32 = .ok (.goto (-28), 3) := by decide +kernel
theorem dX7_findWore_35 : decode cX7_findWore 35 = .ok (.aload_n 0, 1) := by decide +kernel
theorem dX7_findWore_36 : decode cX7_findWore 36 = .ok (.iconst 0, 1) := by decide +kernel
theorem dX7_findWore_37 : decode cX7_findWore 37 = .ok (.putfield 187, 3) := by decide +kernel
theorem dX7_findWore_40 : decode cX7_findWore 40 = .ok (.aload_n 0, 1) := by decide +kernel
theorem dX7_findWore_41 : decode cX7_findWore 41 = .ok (.bipush (-9), 2) := by decide +kernel
theorem dX7_findWore_43 : decode cX7_findWore 43 = .ok (.putfield 190, 3) := by decide +kernel
theorem dX7_findWore_46 : decode cX7_findWore 46 = .ok (.iconst 0, 1) := by decide +kernel
theorem dX7_findWore_47 : decode cX7_findWore 47 = .ok (.istore_n 3, 1) := by decide +kernel
theorem dX7_findWore_48 : decode cX7_findWore 48 = .ok (.iload_n 3, 1) := by decide +kernel
theorem dX7_findWore_49 : decode cX7_findWore 49 = .ok (.aload_n 0, 1) := by decide +kernel
theorem dX7_findWore_50 : decode cX7_findWore 50 = .ok (.getfield 54, 3) := by decide +kernel
theorem dX7_findWore_53 : decode cX7_findWore 53 = .ok (.iload_n 2, 1) := by decide +kernel
theorem dX7_findWore_54 : decode cX7_findWore 54 = .ok (.invokestatic 138, 3) := by decide +kernel
theorem dX7_findWore_57 : decode cX7_findWore 57 = .ok (.if_icmp .ge 168, 3) := by decide +kernel
theorem dX7_findWore_60 : decode cX7_findWore 60 = .ok (.aload_n 0, 1) := by decide +kernel
theorem dX7_findWore_61 : decode cX7_findWore 61 = .ok (.invokevirtual 135, 3) := by decide +kernel
theorem dX7_findWore_64 : decode cX7_findWore 64 = .ok (.iload_n 2, 1) := by decide +kernel
theorem dX7_findWore_65 : decode cX7_findWore 65 = .ok (.istore 4, 2) := by decide +kernel
theorem dX7_findWore_67 : decode cX7_findWore 67 = .ok (.iconst 0, 1) := by decide +kernel
theorem dX7_findWore_68 : decode cX7_findWore 68 = .ok (.istore 5, 2) := by decide +kernel
theorem dX7_findWore_70 : decode cX7_findWore 70 = .ok (.iconst 1, 1) := by decide +kernel
theorem dX7_findWore_71 : decode cX7_findWore 71 = .ok (.istore 6, 2) := by decide +kernel
theorem dX7_findWore_73 : decode cX7_findWore 73 = .ok (.iconst 0, 1) := by decide +kernel
theorem dX7_findWore_74 : decode cX7_findWore 74 = .ok (.istore 7, 2) := by decide +kernel
theorem dX7_findWore_76 : decode cX7_findWore 76 = .ok (.iload 7, 2) := by decide +kernel
theorem dX7_findWore_78 : decode cX7_findWore 78 = .ok (.aload_n 0, 1) := by decide +kernel
theorem dX7_findWore_79 : decode cX7_findWore 79 = .ok (.getfield 113, 3) := by decide +kernel
theorem dX7_findWore_82 : decode cX7_findWore 82 = .ok (.if_icmp .ge 102, 3) := by decide +kernel
theorem dX7_findWore_85 : decode cX7_findWore 85 = .ok (.aload_n 0, 1) := by decide +kernel
theorem dX7_findWore_86 : decode cX7_findWore 86 = .ok (.iload 7, 2) := by decide +kernel
theorem dX7_findWore_88 : decode cX7_findWore 88 = .ok (.iload_n 1, 1) := by decide +kernel
theorem dX7_findWore_89 : decode cX7_findWore 89 = .ok (.invokevirtual 184, 3) := by decide +kernel
theorem dX7_findWore_92 : decode cX7_findWore 92 = .ok (.ifCond .eq 86, 3) := by decide +kernel
theorem dX7_findWore_95 : decode cX7_findWore 95 = .ok (.iinc 4 (-1), 3) := by decide +kernel
theorem dX7_findWore_98 : decode cX7_findWore 98 = .ok (.iload_n 3, 1) := by decide +kernel
theorem dX7_findWore_99 : decode cX7_findWore 99 = .ok (.aload_n 0, 1) := by decide +kernel
theorem dX7_findWore_100 : decode cX7_findWore 100 = .ok (.getfield 54, 3) := by decide +kernel
theorem dX7_findWore_103 : decode cX7_findWore 103 = .ok (.iload 4, 2) := by decide +kernel
theorem dX7_findWore_105 : decode cX7_findWore 105 = .ok (.invokestatic 138, 3) := by decide +kernel
theorem dX7_findWore_108 : decode cX7_findWore 108 = .ok (.idiv, 1) := by decide +kernel
theorem dX7_findWore_109 : decode cX7_findWore 109 = .ok (.aload_n 0, 1) := by decide +kernel
theorem dX7_findWore_110 : decode cX7_findWore 110 = .ok (.getfield 54, 3) := by decide +kernel
theorem dX7_findWore_113 : decode cX7_findWore 113 = .ok (.irem, 1) := by decide +kernel
theorem dX7_findWore_114 : decode cX7_findWore 114 = .ok (.istore 8, 2) := by decide +kernel
theorem dX7_findWore_116 : decode cX7_findWore 116 = .ok (.bipush 10, 2) := by decide +kernel
theorem dX7_findWore_118 : decode cX7_findWore 118 = .ok (.iload 5, 2) := by decide +kernel
theorem dX7_findWore_120 : decode cX7_findWore 120 = .ok (.imul, 1) := by decide +kernel
theorem dX7_findWore_121 : decode cX7_findWore 121 = .ok (.iload 8, 2) := by decide +kernel
theorem dX7_findWore_123 : decode cX7_findWore 123 = .ok (.iadd, 1) := by decide +kernel
theorem dX7_findWore_124 : decode cX7_findWore 124 = .ok (.iconst 1, 1) := by decide +kernel
theorem dX7_findWore_125 : decode cX7_findWore 125 = .ok (.iadd, 1) := by decide +kernel
theorem dX7_findWore_126 : decode cX7_findWore 126 = .ok (.istore 5, 2) := by decide +kernel
theorem dX7_findWore_128 : decode cX7_findWore 128 = .ok (.aload_n 0, 1) := by decide +kernel
theorem dX7_findWore_129 : decode cX7_findWore 129 = .ok (.aload_n 0, 1) := by decide +kernel
theorem dX7_findWore_130 : decode cX7_findWore 130 = .ok (.getfield 28, 3) := by decide +kernel
theorem dX7_findWore_133 : decode cX7_findWore 133 = .ok (.iload_n 1, 1) := by decide +kernel
theorem dX7_findWore_134 : decode cX7_findWore 134 = .ok (.iload 8, 2) := by decide +kernel
theorem dX7_findWore_136 : decode cX7_findWore 136 = .ok (.invokevirtual 141, 3) := by decide +kernel
theorem dX7_findWore_139 : decode cX7_findWore 139 = .ok (.pop, 1) := by decide +kernel
theorem dX7_findWore_140 : decode cX7_findWore 140 = .ok (.aload_n 0, 1) := by decide +kernel
theorem dX7_findWore_141 : decode cX7_findWore 141 = .ok (.aload_n 0, 1) := by decide +kernel
theorem dX7_findWore_142 : decode cX7_findWore 142 = .ok (.getfield 28, 3) := by decide +kernel
theorem dX7_findWore_145 : decode cX7_findWore 145 = .ok (.iload_n 1, 1) := by decide +kernel
theorem dX7_findWore_146 : decode cX7_findWore 146 = .ok (.aload_n 0, 1) := by decide +kernel
theorem dX7_findWore_147 : decode cX7_findWore 147 = .ok (.getfield 44, 3) := by decide +kernel
theorem dX7_findWore_150 : decode cX7_findWore 150 = .ok (.iload 7, 2) := by decide +kernel
theorem dX7_findWore_152 : decode cX7_findWore 152 = .ok (.iaload, 1) := by decide +kernel
theorem dX7_findWore_153 : decode cX7_findWore 153 = .ok (.invokevirtual 141, 3) := by decide +kernel
theorem dX7_findWore_156 : decode cX7_findWore 156 = .ok (.aload_n 0, 1) := by decide +kernel
theorem dX7_findWore_157 : decode cX7_findWore 157 = .ok (.getfield 47, 3) := by decide +kernel
theorem dX7_findWore_160 : decode cX7_findWore 160 = .ok (.iload 7, 2) := by decide +kernel
theorem dX7_findWore_162 : decode cX7_findWore 162 = .ok (.iaload, 1) := by decide +kernel
theorem dX7_findWore_163 : decode cX7_findWore 163 = .ok (.if_icmp .ne 12, 3) := by decide +kernel
theorem dX7_findWore_166 : decode cX7_findWore 166 = .ok (.iload 6, 2) := by decide +kernel
theorem dX7_findWore_168 : decode cX7_findWore 168 = .ok (.ifCond .eq 7, 3) := by decide +kernel
theorem dX7_findWore_171 : decode cX7_findWore 171 = .ok (.iconst 1, 1) := by decide +kernel
theorem dX7_findWore_172 : decode cX7_findWore 172 = .ok (.goto 4, 3) := by decide +kernel
theorem dX7_findWore_175 : decode cX7_findWore 175 = .ok (.iconst 0, 1) := by decide +kernel
theorem dX7_findWore_176 : decode cX7_findWore 176 = .ok (.istore 6, 2) := by decide +kernel
theorem dX7_findWore_178 : decode cX7_findWore 178 = .ok (.iinc 7 1, 3) := by decide +kernel
theorem dX7_findWore_181 : decode cX7_findWore 181 = .ok (.goto (-105), 3) := by decide +kernel
theorem dX7_findWore_184 : decode cX7_findWore 184 = .ok (.iload 6, 2) := by decide +kernel
theorem dX7_findWore_186 : decode cX7_findWore 186 = .ok (.ifCond .eq 33, 3) := by decide +kernel
theorem dX7_findWore_189 : decode cX7_findWore 189 = .ok (.aload_n 0, 1) := by decide +kernel
theorem dX7_findWore_190 : decode cX7_findWore 190 = .ok (.aload_n 0, 1) := by decide +kernel
theorem dX7_findWore_191 : decode cX7_findWore 191 = .ok (.getfield 187, 3) := by decide +kernel
theorem dX7_findWore_194 : decode cX7_findWore 194 = .ok (.ifCond .ne 8, 3) := by decide +kernel
theorem dX7_findWore_197 : decode cX7_findWore 197 = .ok (.iload 5, 2) := by decide +kernel
theorem dX7_findWore_199 : decode cX7_findWore 199 = .ok (.goto 7, 3) := by decide +kernel
theorem dX7_findWore_202 : decode cX7_findWore 202 = .ok (.aload_n 0, 1) := by decide +kernel
theorem dX7_findWore_203 : decode cX7_findWore 203 = .ok (.getfield 190, 3) := by decide +kernel
theorem dX7_findWore_206 : decode cX7_findWore 206 = .ok (.putfield 190, 3) := by decide +kernel
theorem dX7_findWore_209 : decode cX7_findWore 209 = .ok (.aload_n 0, 1) := by decide +kernel
theorem dX7_findWore_210 : decode cX7_findWore 210 = .ok (.dup, 1) := by decide +kernel
theorem dX7_findWore_211 : decode cX7_findWore 211 = .ok (.getfield 187, 3) := by decide +kernel
theorem dX7_findWore_214 : decode cX7_findWore 214 = .ok (.iconst 1, 1) := by decide +kernel
theorem dX7_findWore_215 : decode cX7_findWore 215 = .ok (.iadd, 1) := by decide +kernel
theorem dX7_findWore_216 : decode cX7_findWore 216 = .ok (.putfield 187, 3) := by decide +kernel
theorem dX7_findWore_219 : decode cX7_findWore 219 = .ok (.iinc 3 1, 3) := by decide +kernel
theorem dX7_findWore_222 : decode cX7_findWore 222 = .ok (.goto (-174), 3) := by decide +kernel
theorem dX7_findWore_225 : decode cX7_findWore 225 = .ok (.return_, 1) := by decide +kernel
set_option maxRecDepth 20000 in
theorem ggX7_wore_X7_noGlove : GoodIn wsX7_wore wsX7_noGlove := goodIn_r _ [9, 10, 11, 12, 8, 13, 56, 57, 58, 59, 60, 61, 62, 63, 64, 65, 66, 67, 68, 69, 70, 71, 72, 73, 74, 75, 76, 77, 78, 79, 80, 81, 82, 83, 84, 85, 86] (by decide +kernel) (by decide +kernel)
set_option maxRecDepth 20000 in
theorem gX7_wore_X7_noGlove : GoodIn wsX7_wore (wsV RX7 125 RX7 yX7_noGlove wsX7_noGlove) := goodIn_app (goodIn_of _ (by decide +kernel)) ggX7_wore_X7_noGlove
set_option maxRecDepth 20000 in
theorem ggX7_wore_X7_in : GoodIn wsX7_wore wsX7_in := goodIn_r _ [13] (by decide +kernel) (by decide +kernel)
set_option maxRecDepth 20000 in
theorem gX7_wore_X7_in : GoodIn wsX7_wore (va_wsS RX7 57 yX7_in wsX7_in) := goodIn_app (goodIn_of _ (by decide +kernel)) ggX7_wore_X7_in
set_option maxRecDepth 20000 in
theorem ggX7_wore_X7_isWorn : GoodIn wsX7_wore wsX7_isWorn := goodIn_r _ [17] (by decide +kernel) (by decide +kernel)
set_option maxRecDepth 20000 in
theorem gX7_wore_X7_isWorn : GoodIn wsX7_wore (wsV RX7 109 RX7 yX7_isWorn wsX7_isWorn) := goodIn_app (goodIn_of _ (by decide +kernel)) ggX7_wore_X7_isWorn
set_option maxRecDepth 20000 in
theorem ggX7_wore_X7_findWore : GoodIn wsX7_wore wsX7_findWore := goodIn_r _ [21, 22, 3, 4, 23, 24, 25, 26, 27, 28, 29, 8, 30, 31, 32, 33, 34, 35, 36, 37, 38, 2, 39, 40, 41, 42, 43, 44, 45, 46, 47, 48, 49, 50, 51, 52, 53, 54, 55, 56, 57, 58, 59, 60, 61, 62, 63, 64, 65, 66, 67, 68, 69, 70, 71, 72, 73, 74, 75, 76, 77, 78, 79, 80, 81, 82, 83, 84, 85, 86] (by decide +kernel) (by decide +kernel)
set_option maxRecDepth 20000 in
theorem gX7_wore_X7_findWore : GoodIn wsX7_wore (wsV RX7 193 RX7 yX7_findWore wsX7_findWore) := goodIn_app (goodIn_of _ (by decide +kernel)) ggX7_wore_X7_findWore
theorem dX7_wore_0 : decode cX7_wore 0 = .ok (.aload_n 0, 1) := by decide +kernel
theorem dX7_wore_1 : decode cX7_wore 1 = .ok (.iconst 0, 1) := by decide +kernel
theorem dX7_wore_2 : decode cX7_wore 2 = .ok (.putfield 50, 3) := by decide +kernel
theorem dX7_wore_5 : decode cX7_wore 5 = .ok (.aload_n 0, 1) := by decide +kernel
theorem dX7_wore_6 : decode cX7_wore 6 = .ok (.iload_n 1, 1) := by decide +kernel
theorem dX7_wore_7 : decode cX7_wore 7 = .ok (.invokevirtual 125, 3) := by decide +kernel
theorem dX7_wore_10 : decode cX7_wore 10 = .ok (.ifCond .eq 5, 3) := by decide +kernel
theorem dX7_wore_13 : decode cX7_wore 13 = .ok (.iconst (-1), 1) := by decide +kernel
theorem dX7_wore_14 : decode cX7_wore 14 = .ok (.ireturn, 1) := by decide +kernel
theorem dX7_wore_15 : decode cX7_wore 15 = .ok (.iload_n 2, 1) := by decide +kernel
theorem dX7_wore_16 : decode cX7_wore 16 = .ok (.i2l, 1) := by decide +kernel
theorem dX7_wore_17 : decode cX7_wore 17 = .ok (.lconst 0, 1) := by decide +kernel
theorem dX7_wore_18 : decode cX7_wore 18 = .ok (.lconst 1, 1) := by decide +kernel
theorem dX7_wore_19 : decode cX7_wore 19 = .ok (.invokestatic 57, 3) := by decide +kernel
theorem dX7_wore_22 : decode cX7_wore 22 = .ok (.ifCond .ne 6, 3) := by decide +kernel
theorem dX7_wore_25 : decode cX7_wore 25 = .ok (.bipush (-2), 2) := by decide +kernel
theorem dX7_wore_27 : decode cX7_wore 27 = .ok (.ireturn, 1) := by decide +kernel
theorem dX7_wore_28 : decode cX7_wore 28 = .ok (.aload_n 0, 1) := by decide +kernel
theorem dX7_wore_29 : decode cX7_wore 29 = .ok (.aload_n 0, 1) := by decide +kernel
theorem dX7_wore_30 : decode cX7_wore 30 = .ok (.getfield 25, 3) := by decide +kernel
theorem dX7_wore_33 : decode cX7_wore 33 = .ok (.iload_n 1, 1) := by decide +kernel
theorem dX7_wore_34 : decode cX7_wore 34 = .ok (.invokevirtual 109, 3) := by decide +kernel
theorem dX7_wore_37 : decode cX7_wore 37 = .ok (.ifCond .eq 6, 3) := by decide +kernel
theorem dX7_wore_40 : decode cX7_wore 40 = .ok (.bipush (-3), 2) := by decide +kernel
theorem dX7_wore_42 : decode cX7_wore 42 = .ok (.ireturn, 1) := by decide +kernel
theorem dX7_wore_43 : decode cX7_wore 43 = .ok (.aload_n 0, 1) := by decide +kernel
theorem dX7_wore_44 : decode cX7_wore 44 = .ok (.iload_n 1, 1) := by decide +kernel
theorem dX7_wore_45 : decode cX7_wore 45 = .ok (.invokevirtual 193, 3) := by decide +kernel
theorem dX7_wore_48 : decode cX7_wore 48 = .ok (.iload_n 2, 1) := by decide +kernel
theorem dX7_wore_49 : decode cX7_wore 49 = .ok (.ifCond .ne 10, 3) := by decide +kernel
theorem dX7_wore_52 : decode cX7_wore 52 = .ok (.aload_n 0, 1) := by decide +kernel
theorem dX7_wore_53 : decode cX7_wore 53 = .ok (.getfield 187, 3) := by decide +kernel
theorem dX7_wore_56 : decode cX7_wore 56 = .ok (.goto 7, 3) := by decide +kernel
theorem dX7_wore_59 : decode cX7_wore 59 = .ok (.aload_n 0, 1) := by decide +kernel
theorem dX7_wore_60 : decode cX7_wore 60 = .ok (.getfield 190, 3) := by decide +kernel
theorem dX7_wore_63 : decode cX7_wore 63 = .ok (.ireturn, 1) := by decide +kernel
set_option maxRecDepth 20000 in
theorem ggX7_worthTo_X7_doesOn : GoodIn wsX7_worthTo wsX7_doesOn := goodIn_r _ [7, 8, 2, 9, 10, 6, 11, 12, 13, 14, 15, 16, 17, 18, 19, 20, 21, 22, 23, 24, 25, 26, 27, 28, 29, 30, 31, 32, 33, 34, 35, 36, 37, 38, 39, 40, 41, 42] (by decide +kernel) (by decide +kernel)
set_option maxRecDepth 20000 in
theorem gX7_worthTo_X7_doesOn : GoodIn wsX7_worthTo (wsV RX7 105 RX7 yX7_doesOn wsX7_doesOn) := goodIn_app (goodIn_of _ (by decide +kernel)) ggX7_worthTo_X7_doesOn
theorem dX7_worthTo_0 : decode cX7_worthTo 0 = .ok (.aload_n 0, 1) := by decide +kernel
theorem dX7_worthTo_1 : decode cX7_worthTo 1 = .ok (.aload_n 0, 1) := by decide +kernel
theorem dX7_worthTo_2 : decode cX7_worthTo 2 = .ok (.getfield 25, 3) := by decide +kernel
theorem dX7_worthTo_5 : decode cX7_worthTo 5 = .ok (.iload_n 1, 1) := by decide +kernel
theorem dX7_worthTo_6 : decode cX7_worthTo 6 = .ok (.iload_n 2, 1) := by decide +kernel
theorem dX7_worthTo_7 : decode cX7_worthTo 7 = .ok (.invokevirtual 105, 3) := by decide +kernel
theorem dX7_worthTo_10 : decode cX7_worthTo 10 = .ok (.aload_n 0, 1) := by decide +kernel
theorem dX7_worthTo_11 : decode cX7_worthTo 11 = .ok (.getfield 13, 3) := by decide +kernel
theorem dX7_worthTo_14 : decode cX7_worthTo 14 = .ok (.iconst 3, 1) := by decide +kernel
theorem dX7_worthTo_15 : decode cX7_worthTo 15 = .ok (.iload_n 2, 1) := by decide +kernel
theorem dX7_worthTo_16 : decode cX7_worthTo 16 = .ok (.imul, 1) := by decide +kernel
theorem dX7_worthTo_17 : decode cX7_worthTo 17 = .ok (.iconst 1, 1) := by decide +kernel
theorem dX7_worthTo_18 : decode cX7_worthTo 18 = .ok (.iadd, 1) := by decide +kernel
theorem dX7_worthTo_19 : decode cX7_worthTo 19 = .ok (.iaload, 1) := by decide +kernel
theorem dX7_worthTo_20 : decode cX7_worthTo 20 = .ok (.if_icmp .ne 16, 3) := by decide +kernel
theorem dX7_worthTo_23 : decode cX7_worthTo 23 = .ok (.aload_n 0, 1) := by decide +kernel
theorem dX7_worthTo_24 : decode cX7_worthTo 24 = .ok (.getfield 13, 3) := by decide +kernel
theorem dX7_worthTo_27 : decode cX7_worthTo 27 = .ok (.iconst 3, 1) := by decide +kernel
theorem dX7_worthTo_28 : decode cX7_worthTo 28 = .ok (.iload_n 2, 1) := by decide +kernel
theorem dX7_worthTo_29 : decode cX7_worthTo 29 = .ok (.imul, 1) := by decide +kernel
theorem dX7_worthTo_30 : decode cX7_worthTo 30 = .ok (.iconst 2, 1) := by decide +kernel
theorem dX7_worthTo_31 : decode cX7_worthTo 31 = .ok (.iadd, 1) := by decide +kernel
theorem dX7_worthTo_32 : decode cX7_worthTo 32 = .ok (.iaload, 1) := by decide +kernel
theorem dX7_worthTo_33 : decode cX7_worthTo 33 = .ok (.goto 4, 3) := by decide +kernel
theorem dX7_worthTo_36 : decode cX7_worthTo 36 = .ok (.iconst 0, 1) := by decide +kernel
theorem dX7_worthTo_37 : decode cX7_worthTo 37 = .ok (.ireturn, 1) := by decide +kernel
set_option maxRecDepth 20000 in
theorem ggX7_findBids_X7_worthTo : GoodIn wsX7_findBids wsX7_worthTo := goodIn_r _ [7, 8, 9, 10, 11, 12, 6, 13, 14, 15, 16, 17, 18, 19, 20, 21, 22, 23, 24, 25, 26, 27, 28, 29, 30, 31, 32, 33, 34, 35, 36, 37, 38, 39, 40, 41, 42, 43, 44, 45, 46, 47, 48] (by decide +kernel) (by decide +kernel)
set_option maxRecDepth 20000 in
theorem gX7_findBids_X7_worthTo : GoodIn wsX7_findBids (wsV RX7 202 RX7 yX7_worthTo wsX7_worthTo) := goodIn_app (goodIn_of _ (by decide +kernel)) ggX7_findBids_X7_worthTo
theorem dX7_findBids_0 : decode cX7_findBids 0 = .ok (.aload_n 0, 1) := by decide +kernel
theorem dX7_findBids_1 : decode cX7_findBids 1 = .ok (.iconst 0, 1) := by decide +kernel
theorem dX7_findBids_2 : decode cX7_findBids 2 = .ok (.putfield 196, 3) := by decide +kernel
theorem dX7_findBids_5 : decode cX7_findBids 5 = .ok (.aload_n 0, 1) := by decide +kernel
theorem dX7_findBids_6 : decode cX7_findBids 6 = .ok (.bipush (-9), 2) := by decide +kernel
theorem dX7_findBids_8 : decode cX7_findBids 8 = .ok (.putfield 199, 3) := by decide +kernel
theorem dX7_findBids_11 : decode cX7_findBids 11 = .ok (.aload_n 0, 1) := by decide +kernel
theorem dX7_findBids_12 : decode cX7_findBids 12 = .ok (.iload_n 1, 1) := by decide +kernel
theorem dX7_findBids_13 : decode cX7_findBids 13 = .ok (.iload_n 2, 1) := by decide +kernel
theorem dX7_findBids_14 : decode cX7_findBids 14 = .ok (.invokevirtual 202, 3) := by decide +kernel
theorem dX7_findBids_17 : decode cX7_findBids 17 = .ok (.istore 4, 2) := by decide +kernel
theorem dX7_findBids_19 : decode cX7_findBids 19 = .ok (.aload_n 0, 1) := by decide +kernel
theorem dX7_findBids_20 : decode cX7_findBids 20 = .ok (.iload_n 1, 1) := by decide +kernel
theorem dX7_findBids_21 : decode cX7_findBids 21 = .ok (.iload_n 3, 1) := by decide +kernel
theorem dX7_findBids_22 : decode cX7_findBids 22 = .ok (.invokevirtual 202, 3) := by decide +kernel
theorem dX7_findBids_25 : decode cX7_findBids 25 = .ok (.istore 5, 2) := by decide +kernel
theorem dX7_findBids_27 : decode cX7_findBids 27 = .ok (.iconst 0, 1) := by decide +kernel
theorem dX7_findBids_28 : decode cX7_findBids 28 = .ok (.istore 6, 2) := by decide +kernel
theorem dX7_findBids_30 : decode cX7_findBids 30 = .ok (.iload 6, 2) := by decide +kernel
theorem dX7_findBids_32 : decode cX7_findBids 32 = .ok (.bipush 100, 2) := by decide +kernel
theorem dX7_findBids_34 : decode cX7_findBids 34 = .ok (.if_icmp .ge 176, 3) := by decide +kernel
theorem dX7_findBids_37 : decode cX7_findBids 37 = .ok (.iload 6, 2) := by decide +kernel
theorem dX7_findBids_39 : decode cX7_findBids 39 = .ok (.bipush 10, 2) := by decide +kernel
theorem dX7_findBids_41 : decode cX7_findBids 41 = .ok (.idiv, 1) := by decide +kernel
theorem dX7_findBids_42 : decode cX7_findBids 42 = .ok (.istore 7, 2) := by decide +kernel
theorem dX7_findBids_44 : decode cX7_findBids 44 = .ok (.iload 6, 2) := by decide +kernel
theorem dX7_findBids_46 : decode cX7_findBids 46 = .ok (.bipush 10, 2) := by decide +kernel
theorem dX7_findBids_48 : decode cX7_findBids 48 = .ok (.irem, 1) := by decide +kernel
theorem dX7_findBids_49 : decode cX7_findBids 49 = .ok (.istore 8, 2) := by decide +kernel
theorem dX7_findBids_51 : decode cX7_findBids 51 = .ok (.iload 7, 2) := by decide +kernel
theorem dX7_findBids_53 : decode cX7_findBids 53 = .ok (.iload 8, 2) := by decide +kernel
theorem dX7_findBids_55 : decode cX7_findBids 55 = .ok (.if_icmp .lt 11, 3) := by decide +kernel
theorem dX7_findBids_58 : decode cX7_findBids 58 = .ok (.iload 4, 2) := by decide +kernel
theorem dX7_findBids_60 : decode cX7_findBids 60 = .ok (.iload 7, 2) := by decide +kernel
theorem dX7_findBids_62 : decode cX7_findBids 62 = .ok (.isub, 1) := by decide +kernel
theorem dX7_findBids_63 : decode cX7_findBids 63 = .ok (.goto 4, 3) := by decide +kernel
theorem dX7_findBids_66 : decode cX7_findBids 66 = .ok (.iconst 0, 1) := by decide +kernel
theorem dX7_findBids_67 : decode cX7_findBids 67 = .ok (.istore 9, 2) := by decide +kernel
theorem dX7_findBids_69 : decode cX7_findBids 69 = .ok (.iload 7, 2) := by decide +kernel
theorem dX7_findBids_71 : decode cX7_findBids 71 = .ok (.iload 8, 2) := by decide +kernel
theorem dX7_findBids_73 : decode cX7_findBids 73 = .ok (.if_icmp .lt 7, 3) := by decide +kernel
theorem dX7_findBids_76 : decode cX7_findBids 76 = .ok (.iconst 0, 1) := by decide +kernel
theorem dX7_findBids_77 : decode cX7_findBids 77 = .ok (.goto 8, 3) := by decide +kernel
theorem dX7_findBids_80 : decode cX7_findBids 80 = .ok (.iload 5, 2) := by decide +kernel
theorem dX7_findBids_82 : decode cX7_findBids 82 = .ok (.iload 8, 2) := by decide +kernel
theorem dX7_findBids_84 : decode cX7_findBids 84 = .ok (.isub, 1) := by decide +kernel
theorem dX7_findBids_85 : decode cX7_findBids 85 = .ok (.istore 10, 2) := by decide +kernel
theorem dX7_findBids_87 : decode cX7_findBids 87 = .ok (.iconst 1, 1) := by decide +kernel
theorem dX7_findBids_88 : decode cX7_findBids 88 = .ok (.istore 11, 2) := by decide +kernel
theorem dX7_findBids_90 : decode cX7_findBids 90 = .ok (.iconst 0, 1) := by decide +kernel
theorem dX7_findBids_91 : decode cX7_findBids 91 = .ok (.istore 12, 2) := by decide +kernel
theorem dX7_findBids_93 : decode cX7_findBids 93 = .ok (.iload 12, 2) := by decide +kernel
theorem dX7_findBids_95 : decode cX7_findBids 95 = .ok (.bipush 10, 2) := by decide +kernel
theorem dX7_findBids_97 : decode cX7_findBids 97 = .ok (.if_icmp .ge 63, 3) := by decide +kernel
theorem dX7_findBids_100 : decode cX7_findBids 100 = .ok (.iload 11, 2) := by decide +kernel
theorem dX7_findBids_102 : decode cX7_findBids 102 = .ok (.ifCond .eq 49, 3) := by decide +kernel
theorem dX7_findBids_105 : decode cX7_findBids 105 = .ok (.iload 12, 2) := by decide +kernel
theorem dX7_findBids_107 : decode cX7_findBids 107 = .ok (.iload 8, 2) := by decide +kernel
theorem dX7_findBids_109 : decode cX7_findBids 109 = .ok (.if_icmp .lt 11, 3) := by decide +kernel
theorem dX7_findBids_112 : decode cX7_findBids 112 = .ok (.iload 4, 2) := by decide +kernel
theorem dX7_findBids_114 : decode cX7_findBids 114 = .ok (.iload 12, 2) := by decide +kernel
theorem dX7_findBids_116 : decode cX7_findBids 116 = .ok (.isub, 1) := by decide +kernel
theorem dX7_findBids_117 : decode cX7_findBids 117 = .ok (.goto 4, 3) := by decide +kernel
theorem dX7_findBids_120 : decode cX7_findBids 120 = .ok (.iconst 0, 1) := by decide +kernel
theorem dX7_findBids_121 : decode cX7_findBids 121 = .ok (.iload 9, 2) := by decide +kernel
theorem dX7_findBids_123 : decode cX7_findBids 123 = .ok (.if_icmp .gt 28, 3) := by decide +kernel
theorem dX7_findBids_126 : decode cX7_findBids 126 = .ok (.iload 7, 2) := by decide +kernel
theorem dX7_findBids_128 : decode cX7_findBids 128 = .ok (.iload 12, 2) := by decide +kernel
theorem dX7_findBids_130 : decode cX7_findBids 130 = .ok (.if_icmp .lt 7, 3) := by decide +kernel
theorem dX7_findBids_133 : decode cX7_findBids 133 = .ok (.iconst 0, 1) := by decide +kernel
theorem dX7_findBids_134 : decode cX7_findBids 134 = .ok (.goto 8, 3) := by decide +kernel
theorem dX7_findBids_137 : decode cX7_findBids 137 = .ok (.iload 5, 2) := by decide +kernel
theorem dX7_findBids_139 : decode cX7_findBids 139 = .ok (.iload 12, 2) := by decide +kernel
theorem dX7_findBids_141 : decode cX7_findBids 141 = .ok (.isub, 1) := by decide +kernel
theorem dX7_findBids_142 : decode cX7_findBids 142 = .ok (.iload 10, 2) := by decide +kernel
theorem dX7_findBids_144 : decode cX7_findBids 144 = .ok (.if_icmp .gt 7, 3) := by decide +kernel
theorem dX7_findBids_147 : decode cX7_findBids 147 = .ok (.iconst 1, 1) := by decide +kernel
theorem dX7_findBids_148 : decode cX7_findBids 148 = .ok (.goto 4, 3) := by decide +kernel
theorem dX7_findBids_151 : decode cX7_findBids 151 = .ok (.iconst 0, 1) := by decide +kernel
theorem dX7_findBids_152 : decode cX7_findBids 152 = .ok (.istore 11, 2) := by decide +kernel
theorem dX7_findBids_154 : decode cX7_findBids 154 = .ok (.iinc 12 1, 3) := by decide +kernel
theorem dX7_findBids_157 : decode cX7_findBids 157 = .ok (.goto (-64), 3) := by decide +kernel
theorem dX7_findBids_160 : decode cX7_findBids 160 = .ok (.aload_n 0, 1) := by decide +kernel
theorem dX7_findBids_161 : decode cX7_findBids 161 = .ok (.iload 11, 2) := by decide +kernel
theorem dX7_findBids_163 : decode cX7_findBids 163 = .ok (.ifCond .eq 15, 3) := by decide +kernel
theorem dX7_findBids_166 : decode cX7_findBids 166 = .ok (.aload_n 0, 1) := by decide +kernel
theorem dX7_findBids_167 : decode cX7_findBids 167 = .ok (.getfield 196, 3) := by decide +kernel
theorem dX7_findBids_170 : decode cX7_findBids 170 = .ok (.ifCond .ne 8, 3) := by decide +kernel
theorem dX7_findBids_173 : decode cX7_findBids 173 = .ok (.iload 6, 2) := by decide +kernel
theorem dX7_findBids_175 : decode cX7_findBids 175 = .ok (.goto 7, 3) := by decide +kernel
theorem dX7_findBids_178 : decode cX7_findBids 178 = .ok (.aload_n 0, 1) := by decide +kernel
theorem dX7_findBids_179 : decode cX7_findBids 179 = .ok (.getfield 199, 3) := by decide +kernel
theorem dX7_findBids_182 : decode cX7_findBids 182 = .ok (.putfield 199, 3) := by decide +kernel
theorem dX7_findBids_185 : decode cX7_findBids 185 = .ok (.aload_n 0, 1) := by decide +kernel
theorem dX7_findBids_186 : decode cX7_findBids 186 = .ok (.dup, 1) := by decide +kernel
theorem dX7_findBids_187 : decode cX7_findBids 187 = .ok (.getfield 196, 3) := by decide +kernel
theorem dX7_findBids_190 : decode cX7_findBids 190 = .ok (.iload 11, 2) := by decide +kernel
theorem dX7_findBids_192 : decode cX7_findBids 192 = .ok (.ifCond .eq 7, 3) := by decide +kernel
theorem dX7_findBids_195 : decode cX7_findBids 195 = .ok (.iconst 1, 1) := by decide +kernel
theorem dX7_findBids_196 : decode cX7_findBids 196 = .ok (.goto 4, 3) := by decide +kernel
theorem dX7_findBids_199 : decode cX7_findBids 199 = .ok (.iconst 0, 1) := by decide +kernel
theorem dX7_findBids_200 : decode cX7_findBids 200 = .ok (.iadd, 1) := by decide +kernel
theorem dX7_findBids_201 : decode cX7_findBids 201 = .ok (.putfield 196, 3) := by decide +kernel
theorem dX7_findBids_204 : decode cX7_findBids 204 = .ok (.iinc 6 1, 3) := by decide +kernel
theorem dX7_findBids_207 : decode cX7_findBids 207 = .ok (.goto (-177), 3) := by decide +kernel
theorem dX7_findBids_210 : decode cX7_findBids 210 = .ok (.return_, 1) := by decide +kernel
set_option maxRecDepth 20000 in
theorem ggX7_bids_X7_noGlove : GoodIn wsX7_bids wsX7_noGlove := goodIn_r _ [9, 10, 11, 12, 8, 13, 40, 41, 42, 43, 44, 45, 46, 47, 48, 49, 50, 51, 52, 53, 54, 55, 56, 57, 58, 59, 60, 61, 62, 63, 64, 65, 66, 67, 68, 69, 70] (by decide +kernel) (by decide +kernel)
set_option maxRecDepth 20000 in
theorem gX7_bids_X7_noGlove : GoodIn wsX7_bids (wsV RX7 125 RX7 yX7_noGlove wsX7_noGlove) := goodIn_app (goodIn_of _ (by decide +kernel)) ggX7_bids_X7_noGlove
set_option maxRecDepth 20000 in
theorem ggX7_bids_X7_noPerson : GoodIn wsX7_bids wsX7_noPerson := goodIn_r _ [17, 18, 11, 12, 8, 13, 40, 41, 42, 43, 44, 45, 46, 47, 48, 49, 50, 51, 52, 53, 54, 55, 56, 57, 58, 59, 60, 61, 62, 63, 64, 65, 66, 67, 68, 69, 70] (by decide +kernel) (by decide +kernel)
set_option maxRecDepth 20000 in
theorem gX7_bids_X7_noPerson : GoodIn wsX7_bids (wsV RX7 116 RX7 yX7_noPerson wsX7_noPerson) := goodIn_app (goodIn_of _ (by decide +kernel)) ggX7_bids_X7_noPerson
set_option maxRecDepth 20000 in
theorem ggX7_bids_X7_in : GoodIn wsX7_bids wsX7_in := goodIn_r _ [13] (by decide +kernel) (by decide +kernel)
set_option maxRecDepth 20000 in
theorem gX7_bids_X7_in : GoodIn wsX7_bids (va_wsS RX7 57 yX7_in wsX7_in) := goodIn_app (goodIn_of _ (by decide +kernel)) ggX7_bids_X7_in
set_option maxRecDepth 20000 in
theorem ggX7_bids_X7_isWorn : GoodIn wsX7_bids wsX7_isWorn := goodIn_r _ [22] (by decide +kernel) (by decide +kernel)
set_option maxRecDepth 20000 in
theorem gX7_bids_X7_isWorn : GoodIn wsX7_bids (wsV RX7 109 RX7 yX7_isWorn wsX7_isWorn) := goodIn_app (goodIn_of _ (by decide +kernel)) ggX7_bids_X7_isWorn
set_option maxRecDepth 20000 in
theorem ggX7_bids_X7_findBids : GoodIn wsX7_bids wsX7_findBids := goodIn_r _ [26, 3, 4, 27, 28, 29, 8, 30, 2, 31, 32, 33, 34, 35, 36, 37, 38, 39, 40, 41, 42, 43, 44, 45, 46, 47, 48, 49, 50, 51, 52, 53, 54, 55, 56, 57, 58, 59, 60, 61, 62, 63, 64, 65, 66, 67, 68, 69, 70] (by decide +kernel) (by decide +kernel)
set_option maxRecDepth 20000 in
theorem gX7_bids_X7_findBids : GoodIn wsX7_bids (wsV RX7 205 RX7 yX7_findBids wsX7_findBids) := goodIn_app (goodIn_of _ (by decide +kernel)) ggX7_bids_X7_findBids
theorem dX7_bids_0 : decode cX7_bids 0 = .ok (.aload_n 0, 1) := by decide +kernel
theorem dX7_bids_1 : decode cX7_bids 1 = .ok (.iconst 0, 1) := by decide +kernel
theorem dX7_bids_2 : decode cX7_bids 2 = .ok (.putfield 50, 3) := by decide +kernel
theorem dX7_bids_5 : decode cX7_bids 5 = .ok (.aload_n 0, 1) := by decide +kernel
theorem dX7_bids_6 : decode cX7_bids 6 = .ok (.iload_n 1, 1) := by decide +kernel
theorem dX7_bids_7 : decode cX7_bids 7 = .ok (.invokevirtual 125, 3) := by decide +kernel
theorem dX7_bids_10 : decode cX7_bids 10 = .ok (.ifCond .ne 19, 3) := by decide +kernel
theorem dX7_bids_13 : decode cX7_bids 13 = .ok (.aload_n 0, 1) := by decide +kernel
theorem dX7_bids_14 : decode cX7_bids 14 = .ok (.iload_n 2, 1) := by decide +kernel
theorem dX7_bids_15 : decode cX7_bids 15 = .ok (.invokevirtual 116, 3) := by decide +kernel
theorem dX7_bids_18 : decode cX7_bids 18 = .ok (.ifCond .ne 11, 3) := by decide +kernel
theorem dX7_bids_21 : decode cX7_bids 21 = .ok (.aload_n 0, 1) := by decide +kernel
theorem dX7_bids_22 : decode cX7_bids 22 = .ok (.iload_n 3, 1) := by decide +kernel
theorem dX7_bids_23 : decode cX7_bids 23 = .ok (.invokevirtual 116, 3) := by decide +kernel
theorem dX7_bids_26 : decode cX7_bids 26 = .ok (.ifCond .eq 5, 3) := by decide +kernel
theorem dX7_bids_29 : decode cX7_bids 29 = .ok (.iconst (-1), 1) := by decide +kernel
theorem dX7_bids_30 : decode cX7_bids 30 = .ok (.ireturn, 1) := by decide +kernel
theorem dX7_bids_31 : decode cX7_bids 31 = .ok (.iload_n 2, 1) := by decide +kernel
theorem dX7_bids_32 : decode cX7_bids 32 = .ok (.iload_n 3, 1) := by decide +kernel
theorem dX7_bids_33 : decode cX7_bids 33 = .ok (.if_icmp .eq 14, 3) := by decide +kernel
theorem dX7_bids_36 : decode cX7_bids 36 = .ok (.iload 4, 2) := by decide +kernel
theorem dX7_bids_38 : decode cX7_bids 38 = .ok (.i2l, 1) := by decide +kernel
theorem dX7_bids_39 : decode cX7_bids 39 = .ok (.lconst 0, 1) := by decide +kernel
theorem dX7_bids_40 : decode cX7_bids 40 = .ok (.lconst 1, 1) := by decide +kernel
theorem dX7_bids_41 : decode cX7_bids 41 = .ok (.invokestatic 57, 3) := by decide +kernel
theorem dX7_bids_44 : decode cX7_bids 44 = .ok (.ifCond .ne 6, 3) := by decide +kernel
theorem dX7_bids_47 : decode cX7_bids 47 = .ok (.bipush (-2), 2) := by decide +kernel
theorem dX7_bids_49 : decode cX7_bids 49 = .ok (.ireturn, 1) := by decide +kernel
theorem dX7_bids_50 : decode cX7_bids 50 = .ok (.aload_n 0, 1) := by decide +kernel
theorem dX7_bids_51 : decode cX7_bids 51 = .ok (.aload_n 0, 1) := by decide +kernel
theorem dX7_bids_52 : decode cX7_bids 52 = .ok (.getfield 25, 3) := by decide +kernel
theorem dX7_bids_55 : decode cX7_bids 55 = .ok (.iload_n 1, 1) := by decide +kernel
theorem dX7_bids_56 : decode cX7_bids 56 = .ok (.invokevirtual 109, 3) := by decide +kernel
theorem dX7_bids_59 : decode cX7_bids 59 = .ok (.ifCond .eq 6, 3) := by decide +kernel
theorem dX7_bids_62 : decode cX7_bids 62 = .ok (.bipush (-3), 2) := by decide +kernel
theorem dX7_bids_64 : decode cX7_bids 64 = .ok (.ireturn, 1) := by decide +kernel
theorem dX7_bids_65 : decode cX7_bids 65 = .ok (.aload_n 0, 1) := by decide +kernel
theorem dX7_bids_66 : decode cX7_bids 66 = .ok (.iload_n 1, 1) := by decide +kernel
theorem dX7_bids_67 : decode cX7_bids 67 = .ok (.iload_n 2, 1) := by decide +kernel
theorem dX7_bids_68 : decode cX7_bids 68 = .ok (.iload_n 3, 1) := by decide +kernel
theorem dX7_bids_69 : decode cX7_bids 69 = .ok (.invokevirtual 205, 3) := by decide +kernel
theorem dX7_bids_72 : decode cX7_bids 72 = .ok (.iload 4, 2) := by decide +kernel
theorem dX7_bids_74 : decode cX7_bids 74 = .ok (.ifCond .ne 10, 3) := by decide +kernel
theorem dX7_bids_77 : decode cX7_bids 77 = .ok (.aload_n 0, 1) := by decide +kernel
theorem dX7_bids_78 : decode cX7_bids 78 = .ok (.getfield 196, 3) := by decide +kernel
theorem dX7_bids_81 : decode cX7_bids 81 = .ok (.goto 7, 3) := by decide +kernel
theorem dX7_bids_84 : decode cX7_bids 84 = .ok (.aload_n 0, 1) := by decide +kernel
theorem dX7_bids_85 : decode cX7_bids 85 = .ok (.getfield 199, 3) := by decide +kernel
theorem dX7_bids_88 : decode cX7_bids 88 = .ok (.ireturn, 1) := by decide +kernel
theorem dX7_divisor_0 : decode cX7_divisor 0 = .ok (.iload_n 0, 1) := by decide +kernel
theorem dX7_divisor_1 : decode cX7_divisor 1 = .ok (.istore_n 2, 1) := by decide +kernel
theorem dX7_divisor_2 : decode cX7_divisor 2 = .ok (.iload_n 1, 1) := by decide +kernel
theorem dX7_divisor_3 : decode cX7_divisor 3 = .ok (.istore_n 3, 1) := by decide +kernel
theorem dX7_divisor_4 : decode cX7_divisor 4 = .ok (.iload_n 3, 1) := by decide +kernel
theorem dX7_divisor_5 : decode cX7_divisor 5 = .ok (.ifCond .eq 16, 3) := by decide +kernel
theorem dX7_divisor_8 : decode cX7_divisor 8 = .ok (.iload_n 2, 1) := by decide +kernel
theorem dX7_divisor_9 : decode cX7_divisor 9 = .ok (.iload_n 3, 1) := by decide +kernel
theorem dX7_divisor_10 : decode cX7_divisor 10 = .ok (.irem, 1) := by decide +kernel
theorem dX7_divisor_11 : decode cX7_divisor 11 = .ok (.istore 4, 2) := by decide +kernel
theorem dX7_divisor_13 : decode cX7_divisor 13 = .ok (.iload_n 3, 1) := by decide +kernel
theorem dX7_divisor_14 : decode cX7_divisor 14 = .ok (.istore_n 2, 1) := by decide +kernel
theorem dX7_divisor_15 : decode cX7_divisor 15 = .ok (.iload 4, 2) := by decide +kernel
theorem dX7_divisor_17 : decode cX7_divisor 17 = .ok (.istore_n 3, 1) := by decide +kernel
theorem dX7_divisor_18 : decode cX7_divisor 18 = .ok (.goto (-14), 3) := by decide +kernel
theorem dX7_divisor_21 : decode cX7_divisor 21 = .ok (.iload_n 2, 1) := by decide +kernel
theorem dX7_divisor_22 : decode cX7_divisor 22 = .ok (.ireturn, 1) := by decide +kernel
set_option maxRecDepth 20000 in
theorem ggX7_lost_X7_noGlove : GoodIn wsX7_lost wsX7_noGlove := goodIn_r _ [11, 12, 13, 14, 10, 15, 51, 52, 53, 54, 55, 56, 57, 58, 59, 60, 61, 62, 63, 64, 65, 66, 67, 68, 69, 70, 71, 72, 73, 74, 75, 76, 77, 78, 79, 80, 81] (by decide +kernel) (by decide +kernel)
set_option maxRecDepth 20000 in
theorem gX7_lost_X7_noGlove : GoodIn wsX7_lost (wsV RX7 125 RX7 yX7_noGlove wsX7_noGlove) := goodIn_app (goodIn_of _ (by decide +kernel)) ggX7_lost_X7_noGlove
set_option maxRecDepth 20000 in
theorem ggX7_lost_X7_noPerson : GoodIn wsX7_lost wsX7_noPerson := goodIn_r _ [19, 5, 13, 14, 10, 15, 51, 52, 53, 54, 55, 56, 57, 58, 59, 60, 61, 62, 63, 64, 65, 66, 67, 68, 69, 70, 71, 72, 73, 74, 75, 76, 77, 78, 79, 80, 81] (by decide +kernel) (by decide +kernel)
set_option maxRecDepth 20000 in
theorem gX7_lost_X7_noPerson : GoodIn wsX7_lost (wsV RX7 116 RX7 yX7_noPerson wsX7_noPerson) := goodIn_app (goodIn_of _ (by decide +kernel)) ggX7_lost_X7_noPerson
set_option maxRecDepth 20000 in
theorem ggX7_lost_X7_in : GoodIn wsX7_lost wsX7_in := goodIn_r _ [15] (by decide +kernel) (by decide +kernel)
set_option maxRecDepth 20000 in
theorem gX7_lost_X7_in : GoodIn wsX7_lost (va_wsS RX7 57 yX7_in wsX7_in) := goodIn_app (goodIn_of _ (by decide +kernel)) ggX7_lost_X7_in
set_option maxRecDepth 20000 in
theorem ggX7_lost_X7_isWorn : GoodIn wsX7_lost wsX7_isWorn := goodIn_r _ [23] (by decide +kernel) (by decide +kernel)
set_option maxRecDepth 20000 in
theorem gX7_lost_X7_isWorn : GoodIn wsX7_lost (wsV RX7 109 RX7 yX7_isWorn wsX7_isWorn) := goodIn_app (goodIn_of _ (by decide +kernel)) ggX7_lost_X7_isWorn
set_option maxRecDepth 20000 in
theorem ggX7_lost_X7_power : GoodIn wsX7_lost wsX7_power := goodIn_r _ [26] (by decide +kernel) (by decide +kernel)
set_option maxRecDepth 20000 in
theorem gX7_lost_X7_power : GoodIn wsX7_lost (va_wsS RX7 138 yX7_power wsX7_power) := goodIn_app (goodIn_of _ (by decide +kernel)) ggX7_lost_X7_power
set_option maxRecDepth 20000 in
theorem ggX7_lost_X7_begin : GoodIn wsX7_lost wsX7_begin := goodIn_r _ [30, 6, 4, 51, 52, 53, 54, 55, 56, 57, 58, 59, 60, 61, 62, 63, 64, 65, 66, 67, 68, 69, 70, 71, 72, 73, 74, 75, 76, 77, 78, 79, 80, 81] (by decide +kernel) (by decide +kernel)
set_option maxRecDepth 20000 in
theorem gX7_lost_X7_begin : GoodIn wsX7_lost (wsV RX7 135 RX7 yX7_begin wsX7_begin) := goodIn_app (goodIn_of _ (by decide +kernel)) ggX7_lost_X7_begin
set_option maxRecDepth 20000 in
theorem ggX7_lost_X7_goHand : GoodIn wsX7_lost wsX7_goHand := goodIn_r _ [34, 35, 36, 37, 38, 10, 39, 40, 41, 42, 43, 44, 45, 46, 47, 51, 52, 53, 54, 55, 56, 57, 58, 59, 60, 61, 62, 63, 64, 65, 66, 67, 68, 69, 70, 71, 72, 73, 74, 75, 76, 77, 78, 79, 80, 81] (by decide +kernel) (by decide +kernel)
set_option maxRecDepth 20000 in
theorem gX7_lost_X7_goHand : GoodIn wsX7_lost (wsV RX7 141 RX7 yX7_goHand wsX7_goHand) := goodIn_app (goodIn_of _ (by decide +kernel)) ggX7_lost_X7_goHand
set_option maxRecDepth 20000 in
theorem ggX7_lost_X7_doesOn : GoodIn wsX7_lost wsX7_doesOn := goodIn_r _ [39, 40, 35, 41, 42, 10, 43, 51, 52, 53, 54, 55, 56, 57, 58, 59, 60, 61, 62, 63, 64, 65, 66, 67, 68, 69, 70, 71, 72, 73, 74, 75, 76, 77, 78, 79, 80, 81] (by decide +kernel) (by decide +kernel)
set_option maxRecDepth 20000 in
theorem gX7_lost_X7_doesOn : GoodIn wsX7_lost (wsV RX7 105 RX7 yX7_doesOn wsX7_doesOn) := goodIn_app (goodIn_of _ (by decide +kernel)) ggX7_lost_X7_doesOn
set_option maxRecDepth 20000 in
theorem ggX7_lost_X7_divisor : GoodIn wsX7_lost wsX7_divisor := goodIn_r _ [50] (by decide +kernel) (by decide +kernel)
set_option maxRecDepth 20000 in
theorem gX7_lost_X7_divisor : GoodIn wsX7_lost (va_wsS RX7 209 yX7_divisor wsX7_divisor) := goodIn_app (goodIn_of _ (by decide +kernel)) ggX7_lost_X7_divisor
theorem dX7_lost_0 : decode cX7_lost 0 = .ok (.aload_n 0, 1) := by decide +kernel
theorem dX7_lost_1 : decode cX7_lost 1 = .ok (.iconst 0, 1) := by decide +kernel
theorem dX7_lost_2 : decode cX7_lost 2 = .ok (.putfield 50, 3) := by decide +kernel
theorem dX7_lost_5 : decode cX7_lost 5 = .ok (.aload_n 0, 1) := by decide +kernel
theorem dX7_lost_6 : decode cX7_lost 6 = .ok (.iload_n 1, 1) := by decide +kernel
theorem dX7_lost_7 : decode cX7_lost 7 = .ok (.invokevirtual 125, 3) := by decide +kernel
theorem dX7_lost_10 : decode cX7_lost 10 = .ok (.ifCond .ne 11, 3) := by decide +kernel
theorem dX7_lost_13 : decode cX7_lost 13 = .ok (.aload_n 0, 1) := by decide +kernel
theorem dX7_lost_14 : decode cX7_lost 14 = .ok (.iload_n 2, 1) := by decide +kernel
theorem dX7_lost_15 : decode cX7_lost 15 = .ok (.invokevirtual 116, 3) := by decide +kernel
theorem dX7_lost_18 : decode cX7_lost 18 = .ok (.ifCond .eq 5, 3) := by decide +kernel
theorem dX7_lost_21 : decode cX7_lost 21 = .ok (.iconst (-1), 1) := by decide +kernel
theorem dX7_lost_22 : decode cX7_lost 22 = .ok (.ireturn, 1) := by decide +kernel
theorem dX7_lost_23 : decode cX7_lost 23 = .ok (.iload_n 3, 1) := by decide +kernel
theorem dX7_lost_24 : decode cX7_lost 24 = .ok (.i2l, 1) := by decide +kernel
theorem dX7_lost_25 : decode cX7_lost 25 = .ok (.lconst 0, 1) := by decide +kernel
theorem dX7_lost_26 : decode cX7_lost 26 = .ok (.ldc2_w 160, 3) := by decide +kernel
theorem dX7_lost_29 : decode cX7_lost 29 = .ok (.invokestatic 57, 3) := by decide +kernel
theorem dX7_lost_32 : decode cX7_lost 32 = .ok (.ifCond .eq 16, 3) := by decide +kernel
theorem dX7_lost_35 : decode cX7_lost 35 = .ok (.iload 4, 2) := by decide +kernel
theorem dX7_lost_37 : decode cX7_lost 37 = .ok (.i2l, 1) := by decide +kernel
theorem dX7_lost_38 : decode cX7_lost 38 = .ok (.lconst 0, 1) := by decide +kernel
theorem dX7_lost_39 : decode cX7_lost 39 = .ok (.ldc2_w 179, 3) := by decide +kernel
theorem dX7_lost_42 : decode cX7_lost 42 = .ok (.invokestatic 57, 3) := by decide +kernel
theorem dX7_lost_45 : decode cX7_lost 45 = .ok (.ifCond .ne 6, 3) := by decide +kernel
theorem dX7_lost_48 : decode cX7_lost 48 = .ok (.bipush (-2), 2) := by decide +kernel
theorem dX7_lost_50 : decode cX7_lost 50 = .ok (.ireturn, 1) := by decide +kernel
theorem dX7_lost_51 : decode cX7_lost 51 = .ok (.aload_n 0, 1) := by decide +kernel
theorem dX7_lost_52 : decode cX7_lost 52 = .ok (.aload_n 0, 1) := by decide +kernel
theorem dX7_lost_53 : decode cX7_lost 53 = .ok (.getfield 25, 3) := by decide +kernel
theorem dX7_lost_56 : decode cX7_lost 56 = .ok (.iload_n 1, 1) := by decide +kernel
theorem dX7_lost_57 : decode cX7_lost 57 = .ok (.invokevirtual 109, 3) := by decide +kernel
theorem dX7_lost_60 : decode cX7_lost 60 = .ok (.ifCond .eq 6, 3) := by decide +kernel
theorem dX7_lost_63 : decode cX7_lost 63 = .ok (.bipush (-3), 2) := by decide +kernel
theorem dX7_lost_65 : decode cX7_lost 65 = .ok (.ireturn, 1) := by decide +kernel
theorem dX7_lost_66 : decode cX7_lost 66 = .ok (.iconst 0, 1) := by decide +kernel
theorem dX7_lost_67 : decode cX7_lost 67 = .ok (.istore 6, 2) := by decide +kernel
theorem dX7_lost_69 : decode cX7_lost 69 = .ok (.aload_n 0, 1) := by decide +kernel
theorem dX7_lost_70 : decode cX7_lost 70 = .ok (.getfield 54, 3) := by decide +kernel
theorem dX7_lost_73 : decode cX7_lost 73 = .ok (.iload 4, 2) := by decide +kernel
theorem dX7_lost_75 : decode cX7_lost 75 = .ok (.invokestatic 138, 3) := by decide +kernel
theorem dX7_lost_78 : decode cX7_lost 78 = .ok (.istore 7, 2) := by decide +kernel
theorem dX7_lost_80 : decode cX7_lost 80 = .ok (.iconst 0, 1) := by decide +kernel
theorem dX7_lost_81 : decode cX7_lost 81 = .ok (.istore 8, 2) := by decide +kernel
theorem dX7_lost_83 : decode cX7_lost 83 = .ok (.iload 8, 2) := by decide +kernel
theorem dX7_lost_85 : decode cX7_lost 85 = .ok (.iload 7, 2) := by decide +kernel
theorem dX7_lost_87 : decode cX7_lost 87 = .ok (.if_icmp .ge 81, 3) := by decide +kernel
theorem dX7_lost_90 : decode cX7_lost 90 = .ok (.aload_n 0, 1) := by decide +kernel
theorem dX7_lost_91 : decode cX7_lost 91 = .ok (.invokevirtual 135, 3) := by decide +kernel
theorem dX7_lost_94 : decode cX7_lost 94 = .ok (.iload 4, 2) := by decide +kernel
theorem dX7_lost_96 : decode cX7_lost 96 = .ok (.iconst 1, 1) := by decide +kernel
theorem dX7_lost_97 : decode cX7_lost 97 = .ok (.isub, 1) := by decide +kernel
theorem dX7_lost_98 : decode cX7_lost 98 = .ok (.istore 9, 2) := by decide +kernel
theorem dX7_lost_100 : decode cX7_lost 100 = .ok (.iload 9, 2) := by decide +kernel
theorem dX7_lost_102 : decode cX7_lost 102 = .ok (.ifCond .lt 36, 3) := by decide +kernel
theorem dX7_lost_105 : decode cX7_lost 105 = .ok (.aload_n 0, 1) := by decide +kernel
theorem dX7_lost_106 : decode cX7_lost 106 = .ok (.aload_n 0, 1) := by decide +kernel
theorem dX7_lost_107 : decode cX7_lost 107 = .ok (.getfield 28, 3) := by decide +kernel
theorem dX7_lost_110 : decode cX7_lost 110 = .ok (.iload_n 1, 1) := by decide +kernel
theorem dX7_lost_111 : decode cX7_lost 111 = .ok (.iload 8, 2) := by decide +kernel
theorem dX7_lost_113 : decode cX7_lost 113 = .ok (.aload_n 0, 1) := by decide +kernel
theorem dX7_lost_114 : decode cX7_lost 114 = .ok (.getfield 54, 3) := by decide +kernel
theorem dX7_lost_117 : decode cX7_lost 117 = .ok (.iload 9, 2) := by decide +kernel
theorem dX7_lost_119 : decode cX7_lost 119 = .ok (.invokestatic 138, 3) := by decide +kernel
theorem dX7_lost_122 : decode cX7_lost 122 = .ok (.idiv, 1) := by decide +kernel
theorem dX7_lost_123 : decode cX7_lost 123 = .ok (.aload_n 0, 1) := by decide +kernel
theorem dX7_lost_124 : decode cX7_lost 124 = .ok (.getfield 54, 3) := by decide +kernel
theorem dX7_lost_127 : decode cX7_lost 127 = .ok (.irem, 1) := by decide +kernel
theorem dX7_lost_128 : decode cX7_lost 128 = .ok (.invokevirtual 141, 3) := by decide +kernel
theorem dX7_lost_131 : decode cX7_lost 131 = .ok (.pop, 1) := by decide +kernel
theorem dX7_lost_132 : decode cX7_lost 132 = .ok (.iinc 9 (-1), 3) := by decide +kernel
theorem dX7_lost_135 : decode cX7_lost 135 = .ok (.goto (-35), 3) := by decide +kernel
theorem dX7_lost_138 : decode cX7_lost 138 = .ok (.iload 6, 2) := by decide +kernel
theorem dX7_lost_140 : decode cX7_lost 140 = .ok (.aload_n 0, 1) := by decide +kernel
theorem dX7_lost_141 : decode cX7_lost 141 = .ok (.aload_n 0, 1) := by decide +kernel
theorem dX7_lost_142 : decode cX7_lost 142 = .ok (.getfield 28, 3) := by decide +kernel
theorem dX7_lost_145 : decode cX7_lost 145 = .ok (.iload_n 1, 1) := by decide +kernel
theorem dX7_lost_146 : decode cX7_lost 146 = .ok (.iload_n 2, 1) := by decide +kernel
theorem dX7_lost_147 : decode cX7_lost 147 = .ok (.invokevirtual 105, 3) := by decide +kernel
theorem dX7_lost_150 : decode cX7_lost 150 = .ok (.iload_n 3, 1) := by decide +kernel
theorem dX7_lost_151 : decode cX7_lost 151 = .ok (.if_icmp .ne 7, 3) := by decide +kernel
theorem dX7_lost_154 : decode cX7_lost 154 = .ok (.iconst 1, 1) := by decide +kernel
theorem dX7_lost_155 : decode cX7_lost 155 = .ok (.goto 4, 3) := by decide +kernel
theorem dX7_lost_158 : decode cX7_lost 158 = .ok (.iconst 0, 1) := by decide +kernel
theorem dX7_lost_159 : decode cX7_lost 159 = .ok (.iadd, 1) := by decide +kernel
theorem dX7_lost_160 : decode cX7_lost 160 = .ok (.istore 6, 2) := by decide +kernel
theorem dX7_lost_162 : decode cX7_lost 162 = .ok (.iinc 8 1, 3) := by decide +kernel
theorem dX7_lost_165 : decode cX7_lost 165 = .ok (.goto (-82), 3) := by decide +kernel
theorem dX7_lost_168 : decode cX7_lost 168 = .ok (.iload 6, 2) := by decide +kernel
theorem dX7_lost_170 : decode cX7_lost 170 = .ok (.iload 7, 2) := by decide +kernel
theorem dX7_lost_172 : decode cX7_lost 172 = .ok (.invokestatic 209, 3) := by decide +kernel
theorem dX7_lost_175 : decode cX7_lost 175 = .ok (.istore 8, 2) := by decide +kernel
theorem dX7_lost_177 : decode cX7_lost 177 = .ok (.iload 5, 2) := by decide +kernel
theorem dX7_lost_179 : decode cX7_lost 179 = .ok (.ifCond .eq 11, 3) := by decide +kernel
theorem dX7_lost_182 : decode cX7_lost 182 = .ok (.iload 6, 2) := by decide +kernel
theorem dX7_lost_184 : decode cX7_lost 184 = .ok (.iload 8, 2) := by decide +kernel
theorem dX7_lost_186 : decode cX7_lost 186 = .ok (.idiv, 1) := by decide +kernel
theorem dX7_lost_187 : decode cX7_lost 187 = .ok (.goto 8, 3) := by decide +kernel
theorem dX7_lost_190 : decode cX7_lost 190 = .ok (.iload 7, 2) := by decide +kernel
theorem dX7_lost_192 : decode cX7_lost 192 = .ok (.iload 8, 2) := by decide +kernel
theorem dX7_lost_194 : decode cX7_lost 194 = .ok (.idiv, 1) := by decide +kernel
theorem dX7_lost_195 : decode cX7_lost 195 = .ok (.ireturn, 1) := by decide +kernel
theorem dX7_seed_0 : decode cX7_seed 0 = .ok (.aload_n 0, 1) := by decide +kernel
theorem dX7_seed_1 : decode cX7_seed 1 = .ok (.iconst 0, 1) := by decide +kernel
theorem dX7_seed_2 : decode cX7_seed 2 = .ok (.putfield 50, 3) := by decide +kernel
theorem dX7_seed_5 : decode cX7_seed 5 = .ok (.aload_n 0, 1) := by decide +kernel
theorem dX7_seed_6 : decode cX7_seed 6 = .ok (.getfield 212, 3) := by decide +kernel
theorem dX7_seed_9 : decode cX7_seed 9 = .ok (.lstore_n 3, 1) := by decide +kernel
theorem dX7_seed_10 : decode cX7_seed 10 = .ok (.aload_n 0, 1) := by decide +kernel
theorem dX7_seed_11 : decode cX7_seed 11 = .ok (.lload_n 1, 1) := by decide +kernel
theorem dX7_seed_12 : decode cX7_seed 12 = .ok (.putfield 212, 3) := by decide +kernel
theorem dX7_seed_15 : decode cX7_seed 15 = .ok (.lload_n 3, 1) := by decide +kernel
theorem dX7_seed_16 : decode cX7_seed 16 = .ok (.lreturn, 1) := by decide +kernel
set_option maxRecDepth 20000 in
theorem ggX7_weeks_X7_in : GoodIn wsX7_weeks wsX7_in := goodIn_r _ [14] (by decide +kernel) (by decide +kernel)
set_option maxRecDepth 20000 in
theorem gX7_weeks_X7_in : GoodIn wsX7_weeks (va_wsS RX7 57 yX7_in wsX7_in) := goodIn_app (goodIn_of _ (by decide +kernel)) ggX7_weeks_X7_in
set_option maxRecDepth 20000 in
theorem ggX7_weeks_X7_begin : GoodIn wsX7_weeks wsX7_begin := goodIn_r _ [18, 9, 19, 44, 45, 46, 47, 48, 49, 50, 51, 52, 53, 54, 55, 56, 57, 58, 59, 60, 61, 62, 63, 64, 65, 66, 67, 68, 69, 70, 71, 72, 73, 74] (by decide +kernel) (by decide +kernel)
set_option maxRecDepth 20000 in
theorem gX7_weeks_X7_begin : GoodIn wsX7_weeks (wsV RX7 135 RX7 yX7_begin wsX7_begin) := goodIn_app (goodIn_of _ (by decide +kernel)) ggX7_weeks_X7_begin
set_option maxRecDepth 20000 in
theorem ggX7_weeks_X7_isWorn : GoodIn wsX7_weeks wsX7_isWorn := goodIn_r _ [23] (by decide +kernel) (by decide +kernel)
set_option maxRecDepth 20000 in
theorem gX7_weeks_X7_isWorn : GoodIn wsX7_weeks (wsV RX7 109 RX7 yX7_isWorn wsX7_isWorn) := goodIn_app (goodIn_of _ (by decide +kernel)) ggX7_weeks_X7_isWorn
set_option maxRecDepth 20000 in
theorem ggX7_weeks_X7_wears : GoodIn wsX7_weeks wsX7_wears := goodIn_r _ [27, 7, 44, 45, 46, 47, 48, 49, 50, 51, 52, 53, 54, 55, 56, 57, 58, 59, 60, 61, 62, 63, 64, 65, 66, 67, 68, 69, 70, 71, 72, 73, 74] (by decide +kernel) (by decide +kernel)
set_option maxRecDepth 20000 in
theorem gX7_weeks_X7_wears : GoodIn wsX7_weeks (wsV RX7 122 RX7 yX7_wears wsX7_wears) := goodIn_app (goodIn_of _ (by decide +kernel)) ggX7_weeks_X7_wears
set_option maxRecDepth 20000 in
theorem ggX7_weeks_X7_goHand : GoodIn wsX7_weeks wsX7_goHand := goodIn_r _ [31, 10, 32, 33, 34, 13, 35, 36, 37, 38, 39, 40, 41, 42, 43, 44, 45, 46, 47, 48, 49, 50, 51, 52, 53, 54, 55, 56, 57, 58, 59, 60, 61, 62, 63, 64, 65, 66, 67, 68, 69, 70, 71, 72, 73, 74] (by decide +kernel) (by decide +kernel)
set_option maxRecDepth 20000 in
theorem gX7_weeks_X7_goHand : GoodIn wsX7_weeks (wsV RX7 141 RX7 yX7_goHand wsX7_goHand) := goodIn_app (goodIn_of _ (by decide +kernel)) ggX7_weeks_X7_goHand
theorem dX7_weeks_0 : decode cX7_weeks 0 = .ok (.aload_n 0, 1) := by decide +kernel
theorem dX7_weeks_1 : decode cX7_weeks 1 = .ok (.iconst 0, 1) := by decide +kernel
theorem dX7_weeks_2 : decode cX7_weeks 2 = .ok (.putfield 50, 3) := by decide +kernel
theorem dX7_weeks_5 : decode cX7_weeks 5 = .ok (.iload_n 1, 1) := by decide +kernel
theorem dX7_weeks_6 : decode cX7_weeks 6 = .ok (.i2l, 1) := by decide +kernel
theorem dX7_weeks_7 : decode cX7_weeks 7 = .ok (.lconst 1, 1) := by decide +kernel
theorem dX7_weeks_8 : decode cX7_weeks 8 = .ok (.ldc2_w 216, 3) := by decide +kernel
theorem dX7_weeks_11 : decode cX7_weeks 11 = .ok (.invokestatic 57, 3) := by decide +kernel
theorem dX7_weeks_14 : decode cX7_weeks 14 = .ok (.ifCond .ne 6, 3) := by decide +kernel
theorem dX7_weeks_17 : decode cX7_weeks 17 = .ok (.bipush (-2), 2) := by decide +kernel
theorem dX7_weeks_19 : decode cX7_weeks 19 = .ok (.ireturn, 1) := by decide +kernel
theorem dX7_weeks_20 : decode cX7_weeks 20 = .ok (.aload_n 0, 1) := by decide +kernel
theorem dX7_weeks_21 : decode cX7_weeks 21 = .ok (.invokevirtual 135, 3) := by decide +kernel
theorem dX7_weeks_24 : decode cX7_weeks 24 = .ok (.iconst 0, 1) := by decide +kernel
theorem dX7_weeks_25 : decode cX7_weeks 25 = .ok (.istore_n 2, 1) := by decide +kernel
theorem dX7_weeks_26 : decode cX7_weeks 26 = .ok (.iconst 0, 1) := by decide +kernel
theorem dX7_weeks_27 : decode cX7_weeks 27 = .ok (.istore_n 3, 1) := by decide +kernel
theorem dX7_weeks_28 : decode cX7_weeks 28 = .ok (.iload_n 3, 1) := by decide +kernel
theorem dX7_weeks_29 : decode cX7_weeks 29 = .ok (.iload_n 1, 1) := by decide +kernel
theorem dX7_weeks_30 : decode cX7_weeks 30 = .ok (.if_icmp .ge 131, 3) := by decide +kernel
theorem dX7_weeks_33 : decode cX7_weeks 33 = .ok (.aload_n 0, 1) := by decide +kernel
theorem dX7_weeks_34 : decode cX7_weeks 34 = .ok (.aload_n 0, 1) := by decide +kernel
theorem dX7_weeks_35 : decode cX7_weeks 35 = .ok (.getfield 212, 3) := by decide +kernel
theorem dX7_weeks_38 : decode cX7_weeks 38 = .ok (.ldc2_w 218, 3) := by decide +kernel
theorem dX7_weeks_41 : decode cX7_weeks 41 = .ok (.lmul, 1) := by decide +kernel
theorem dX7_weeks_42 : decode cX7_weeks 42 = .ok (.ldc2_w 220, 3) := by decide +kernel
theorem dX7_weeks_45 : decode cX7_weeks 45 = .ok (.ladd, 1) := by decide +kernel
theorem dX7_weeks_46 : decode cX7_weeks 46 = .ok (.putfield 212, 3) := by decide +kernel
theorem dX7_weeks_49 : decode cX7_weeks 49 = .ok (.aload_n 0, 1) := by decide +kernel
theorem dX7_weeks_50 : decode cX7_weeks 50 = .ok (.getfield 212, 3) := by decide +kernel
theorem dX7_weeks_53 : decode cX7_weeks 53 = .ok (.bipush 33, 2) := by decide +kernel
theorem dX7_weeks_55 : decode cX7_weeks 55 = .ok (.lushr, 1) := by decide +kernel
theorem dX7_weeks_56 : decode cX7_weeks 56 = .ok (.ldc2_w 222, 3) := by decide +kernel
theorem dX7_weeks_59 : decode cX7_weeks 59 = .ok (.lrem, 1) := by decide +kernel
theorem dX7_weeks_60 : decode cX7_weeks 60 = .ok (.l2i, 1) := by decide +kernel
theorem dX7_weeks_61 : decode cX7_weeks 61 = .ok (.istore 4, 2) := by decide +kernel
theorem dX7_weeks_63 : decode cX7_weeks 63 = .ok (.iload 4, 2) := by decide +kernel
theorem dX7_weeks_65 : decode cX7_weeks 65 = .ok (.iconst 5, 1) := by decide +kernel
theorem dX7_weeks_66 : decode cX7_weeks 66 = .ok (.idiv, 1) := by decide +kernel
theorem dX7_weeks_67 : decode cX7_weeks 67 = .ok (.istore 5, 2) := by decide +kernel
theorem dX7_weeks_69 : decode cX7_weeks 69 = .ok (.iload 4, 2) := by decide +kernel
theorem dX7_weeks_71 : decode cX7_weeks 71 = .ok (.iconst 5, 1) := by decide +kernel
theorem dX7_weeks_72 : decode cX7_weeks 72 = .ok (.irem, 1) := by decide +kernel
theorem dX7_weeks_73 : decode cX7_weeks 73 = .ok (.istore 6, 2) := by decide +kernel
theorem dX7_weeks_75 : decode cX7_weeks 75 = .ok (.iload 5, 2) := by decide +kernel
theorem dX7_weeks_77 : decode cX7_weeks 77 = .ok (.aload_n 0, 1) := by decide +kernel
theorem dX7_weeks_78 : decode cX7_weeks 78 = .ok (.getfield 61, 3) := by decide +kernel
theorem dX7_weeks_81 : decode cX7_weeks 81 = .ok (.if_icmp .ge 74, 3) := by decide +kernel
theorem dX7_weeks_84 : decode cX7_weeks 84 = .ok (.iload 6, 2) := by decide +kernel
theorem dX7_weeks_86 : decode cX7_weeks 86 = .ok (.aload_n 0, 1) := by decide +kernel
theorem dX7_weeks_87 : decode cX7_weeks 87 = .ok (.getfield 54, 3) := by decide +kernel
theorem dX7_weeks_90 : decode cX7_weeks 90 = .ok (.if_icmp .ge 65, 3) := by decide +kernel
theorem dX7_weeks_93 : decode cX7_weeks 93 = .ok (.aload_n 0, 1) := by decide +kernel
theorem dX7_weeks_94 : decode cX7_weeks 94 = .ok (.aload_n 0, 1) := by decide +kernel
theorem dX7_weeks_95 : decode cX7_weeks 95 = .ok (.getfield 28, 3) := by decide +kernel
theorem dX7_weeks_98 : decode cX7_weeks 98 = .ok (.iload 5, 2) := by decide +kernel
theorem dX7_weeks_100 : decode cX7_weeks 100 = .ok (.invokevirtual 109, 3) := by decide +kernel
theorem dX7_weeks_103 : decode cX7_weeks 103 = .ok (.ifCond .ne 52, 3) := by decide +kernel
theorem dX7_weeks_106 : decode cX7_weeks 106 = .ok (.aload_n 0, 1) := by decide +kernel
theorem dX7_weeks_107 : decode cX7_weeks 107 = .ok (.aload_n 0, 1) := by decide +kernel
theorem dX7_weeks_108 : decode cX7_weeks 108 = .ok (.getfield 28, 3) := by decide +kernel
theorem dX7_weeks_111 : decode cX7_weeks 111 = .ok (.iload 6, 2) := by decide +kernel
theorem dX7_weeks_113 : decode cX7_weeks 113 = .ok (.invokevirtual 122, 3) := by decide +kernel
theorem dX7_weeks_116 : decode cX7_weeks 116 = .ok (.bipush (-9), 2) := by decide +kernel
theorem dX7_weeks_118 : decode cX7_weeks 118 = .ok (.if_icmp .ne 37, 3) := by decide +kernel
theorem dX7_weeks_121 : decode cX7_weeks 121 = .ok (.iload_n 2, 1) := by decide +kernel
theorem dX7_weeks_122 : decode cX7_weeks 122 = .ok (.aload_n 0, 1) := by decide +kernel
theorem dX7_weeks_123 : decode cX7_weeks 123 = .ok (.aload_n 0, 1) := by decide +kernel
theorem dX7_weeks_124 : decode cX7_weeks 124 = .ok (.getfield 28, 3) := by decide +kernel
theorem dX7_weeks_127 : decode cX7_weeks 127 = .ok (.iload 5, 2) := by decide +kernel
theorem dX7_weeks_129 : decode cX7_weeks 129 = .ok (.iload 6, 2) := by decide +kernel
theorem dX7_weeks_131 : decode cX7_weeks 131 = .ok (.invokevirtual 141, 3) := by decide +kernel
theorem dX7_weeks_134 : decode cX7_weeks 134 = .ok (.aload_n 0, 1) := by decide +kernel
theorem dX7_weeks_135 : decode cX7_weeks 135 = .ok (.getfield 13, 3) := by decide +kernel
theorem dX7_weeks_138 : decode cX7_weeks 138 = .ok (.iconst 3, 1) := by decide +kernel
theorem dX7_weeks_139 : decode cX7_weeks 139 = .ok (.iload 6, 2) := by decide +kernel
theorem dX7_weeks_141 : decode cX7_weeks 141 = .ok (.imul, 1) := by decide +kernel
theorem dX7_weeks_142 : decode cX7_weeks 142 = .ok (.iconst 1, 1) := by decide +kernel
theorem dX7_weeks_143 : decode cX7_weeks 143 = .ok (.iadd, 1) := by decide +kernel
theorem dX7_weeks_144 : decode cX7_weeks 144 = .ok (.iaload, 1) := by decide +kernel
theorem dX7_weeks_145 : decode cX7_weeks 145 = .ok (.if_icmp .ne 7, 3) := by decide +kernel
theorem dX7_weeks_148 : decode cX7_weeks 148 = .ok (.iconst 1, 1) := by decide +kernel
theorem dX7_weeks_149 : decode cX7_weeks 149 = .ok (.goto 4, 3) := by decide +kernel
theorem dX7_weeks_152 : decode cX7_weeks 152 = .ok (.iconst 0, 1) := by decide +kernel
theorem dX7_weeks_153 : decode cX7_weeks 153 = .ok (.iadd, 1) := by decide +kernel
theorem dX7_weeks_154 : decode cX7_weeks 154 = .ok (.istore_n 2, 1) := by decide +kernel
theorem dX7_weeks_155 : decode cX7_weeks 155 = .ok (.iinc 3 1, 3) := by decide +kernel
theorem dX7_weeks_158 : decode cX7_weeks 158 = .ok (.goto (-130), 3) := by decide +kernel
theorem dX7_weeks_161 : decode cX7_weeks 161 = .ok (.iload_n 2, 1) := by decide +kernel
theorem dX7_weeks_162 : decode cX7_weeks 162 = .ok (.ireturn, 1) := by decide +kernel
set_option maxRecDepth 20000 in
theorem ggX7_keep_X7_in : GoodIn wsX7_keep wsX7_in := goodIn_r _ [8] (by decide +kernel) (by decide +kernel)
set_option maxRecDepth 20000 in
theorem gX7_keep_X7_in : GoodIn wsX7_keep (va_wsS RX7 57 yX7_in wsX7_in) := goodIn_app (goodIn_of _ (by decide +kernel)) ggX7_keep_X7_in
theorem dX7_keep_0 : decode cX7_keep 0 = .ok (.aload_n 0, 1) := by decide +kernel
theorem dX7_keep_1 : decode cX7_keep 1 = .ok (.iconst 0, 1) := by decide +kernel
theorem dX7_keep_2 : decode cX7_keep 2 = .ok (.putfield 50, 3) := by decide +kernel
theorem dX7_keep_5 : decode cX7_keep 5 = .ok (.iload_n 1, 1) := by decide +kernel
theorem dX7_keep_6 : decode cX7_keep 6 = .ok (.i2l, 1) := by decide +kernel
theorem dX7_keep_7 : decode cX7_keep 7 = .ok (.lconst 0, 1) := by decide +kernel
theorem dX7_keep_8 : decode cX7_keep 8 = .ok (.lconst 1, 1) := by decide +kernel
theorem dX7_keep_9 : decode cX7_keep 9 = .ok (.invokestatic 57, 3) := by decide +kernel
theorem dX7_keep_12 : decode cX7_keep 12 = .ok (.ifCond .ne 5, 3) := by decide +kernel
theorem dX7_keep_15 : decode cX7_keep 15 = .ok (.iconst (-1), 1) := by decide +kernel
theorem dX7_keep_16 : decode cX7_keep 16 = .ok (.ireturn, 1) := by decide +kernel
theorem dX7_keep_17 : decode cX7_keep 17 = .ok (.aload_n 0, 1) := by decide +kernel
theorem dX7_keep_18 : decode cX7_keep 18 = .ok (.getfield 37, 3) := by decide +kernel
theorem dX7_keep_21 : decode cX7_keep 21 = .ok (.iload_n 1, 1) := by decide +kernel
theorem dX7_keep_22 : decode cX7_keep 22 = .ok (.iconst 1, 1) := by decide +kernel
theorem dX7_keep_23 : decode cX7_keep 23 = .ok (.bastore, 1) := by decide +kernel
theorem dX7_keep_24 : decode cX7_keep 24 = .ok (.iconst 0, 1) := by decide +kernel
theorem dX7_keep_25 : decode cX7_keep 25 = .ok (.istore_n 2, 1) := by decide +kernel
theorem dX7_keep_26 : decode cX7_keep 26 = .ok (.iload_n 2, 1) := by decide +kernel
theorem dX7_keep_27 : decode cX7_keep 27 = .ok (.bipush 21, 2) := by decide +kernel
theorem dX7_keep_29 : decode cX7_keep 29 = .ok (.if_icmp .ge 26, 3) := by decide +kernel
theorem dX7_keep_32 : decode cX7_keep 32 = .ok (.aload_n 0, 1) := by decide +kernel
theorem dX7_keep_33 : decode cX7_keep 33 = .ok (.getfield 34, 3) := by decide +kernel
theorem dX7_keep_36 : decode cX7_keep 36 = .ok (.bipush 21, 2) := by decide +kernel
theorem dX7_keep_38 : decode cX7_keep 38 = .ok (.iload_n 1, 1) := by decide +kernel
theorem dX7_keep_39 : decode cX7_keep 39 = .ok (.imul, 1) := by decide +kernel
theorem dX7_keep_40 : decode cX7_keep 40 = .ok (.iload_n 2, 1) := by decide +kernel
theorem dX7_keep_41 : decode cX7_keep 41 = .ok (.iadd, 1) := by decide +kernel
theorem dX7_keep_42 : decode cX7_keep 42 = .ok (.aload_n 0, 1) := by decide +kernel
theorem dX7_keep_43 : decode cX7_keep 43 = .ok (.getfield 25, 3) := by decide +kernel
theorem dX7_keep_46 : decode cX7_keep 46 = .ok (.iload_n 2, 1) := by decide +kernel
theorem dX7_keep_47 : decode cX7_keep 47 = .ok (.iaload, 1) := by decide +kernel
theorem dX7_keep_48 : decode cX7_keep 48 = .ok (.iastore, 1) := by decide +kernel
theorem dX7_keep_49 : decode cX7_keep 49 = .ok (.iinc 2 1, 3) := by decide +kernel
theorem dX7_keep_52 : decode cX7_keep 52 = .ok (.goto (-26), 3) := by decide +kernel
theorem dX7_keep_55 : decode cX7_keep 55 = .ok (.aload_n 0, 1) := by decide +kernel
theorem dX7_keep_56 : decode cX7_keep 56 = .ok (.getfield 25, 3) := by decide +kernel
theorem dX7_keep_59 : decode cX7_keep 59 = .ok (.bipush 20, 2) := by decide +kernel
theorem dX7_keep_61 : decode cX7_keep 61 = .ok (.iaload, 1) := by decide +kernel
theorem dX7_keep_62 : decode cX7_keep 62 = .ok (.ireturn, 1) := by decide +kernel
set_option maxRecDepth 20000 in
theorem ggX7_again_X7_in : GoodIn wsX7_again wsX7_in := goodIn_r _ [9] (by decide +kernel) (by decide +kernel)
set_option maxRecDepth 20000 in
theorem gX7_again_X7_in : GoodIn wsX7_again (va_wsS RX7 57 yX7_in wsX7_in) := goodIn_app (goodIn_of _ (by decide +kernel)) ggX7_again_X7_in
theorem dX7_again_0 : decode cX7_again 0 = .ok (.aload_n 0, 1) := by decide +kernel
theorem dX7_again_1 : decode cX7_again 1 = .ok (.iconst 0, 1) := by decide +kernel
theorem dX7_again_2 : decode cX7_again 2 = .ok (.putfield 50, 3) := by decide +kernel
theorem dX7_again_5 : decode cX7_again 5 = .ok (.iload_n 1, 1) := by decide +kernel
theorem dX7_again_6 : decode cX7_again 6 = .ok (.i2l, 1) := by decide +kernel
theorem dX7_again_7 : decode cX7_again 7 = .ok (.lconst 0, 1) := by decide +kernel
theorem dX7_again_8 : decode cX7_again 8 = .ok (.lconst 1, 1) := by decide +kernel
theorem dX7_again_9 : decode cX7_again 9 = .ok (.invokestatic 57, 3) := by decide +kernel
theorem dX7_again_12 : decode cX7_again 12 = .ok (.ifCond .ne 5, 3) := by decide +kernel
theorem dX7_again_15 : decode cX7_again 15 = .ok (.iconst (-1), 1) := by decide +kernel
theorem dX7_again_16 : decode cX7_again 16 = .ok (.ireturn, 1) := by decide +kernel
theorem dX7_again_17 : decode cX7_again 17 = .ok (.aload_n 0, 1) := by decide +kernel
theorem dX7_again_18 : decode cX7_again 18 = .ok (.getfield 37, 3) := by decide +kernel
theorem dX7_again_21 : decode cX7_again 21 = .ok (.iload_n 1, 1) := by decide +kernel
theorem dX7_again_22 : decode cX7_again 22 = .ok (.baload, 1) := by decide +kernel
theorem dX7_again_23 : decode cX7_again 23 = .ok (.ifCond .ne 6, 3) := by decide +kernel
theorem dX7_again_26 : decode cX7_again 26 = .ok (.bipush (-3), 2) := by decide +kernel
theorem dX7_again_28 : decode cX7_again 28 = .ok (.ireturn, 1) := by decide +kernel
theorem dX7_again_29 : decode cX7_again 29 = .ok (.iconst 0, 1) := by decide +kernel
theorem dX7_again_30 : decode cX7_again 30 = .ok (.istore_n 2, 1) := by decide +kernel
theorem dX7_again_31 : decode cX7_again 31 = .ok (.iload_n 2, 1) := by decide +kernel
theorem dX7_again_32 : decode cX7_again 32 = .ok (.bipush 21, 2) := by decide +kernel
theorem dX7_again_34 : decode cX7_again 34 = .ok (.if_icmp .ge 26, 3) := by decide +kernel
theorem dX7_again_37 : decode cX7_again 37 = .ok (.aload_n 0, 1) := by decide +kernel
theorem dX7_again_38 : decode cX7_again 38 = .ok (.getfield 25, 3) := by decide +kernel
theorem dX7_again_41 : decode cX7_again 41 = .ok (.iload_n 2, 1) := by decide +kernel
theorem dX7_again_42 : decode cX7_again 42 = .ok (.aload_n 0, 1) := by decide +kernel
theorem dX7_again_43 : decode cX7_again 43 = .ok (.getfield 34, 3) := by decide +kernel
theorem dX7_again_46 : decode cX7_again 46 = .ok (.bipush 21, 2) := by decide +kernel
theorem dX7_again_48 : decode cX7_again 48 = .ok (.iload_n 1, 1) := by decide +kernel
theorem dX7_again_49 : decode cX7_again 49 = .ok (.imul, 1) := by decide +kernel
theorem dX7_again_50 : decode cX7_again 50 = .ok (.iload_n 2, 1) := by decide +kernel
theorem dX7_again_51 : decode cX7_again 51 = .ok (.iadd, 1) := by decide +kernel
theorem dX7_again_52 : decode cX7_again 52 = .ok (.iaload, 1) := by decide +kernel
theorem dX7_again_53 : decode cX7_again 53 = .ok (.iastore, 1) := by decide +kernel
theorem dX7_again_54 : decode cX7_again 54 = .ok (.iinc 2 1, 3) := by decide +kernel
theorem dX7_again_57 : decode cX7_again 57 = .ok (.goto (-26), 3) := by decide +kernel
theorem dX7_again_60 : decode cX7_again 60 = .ok (.aload_n 0, 1) := by decide +kernel
theorem dX7_again_61 : decode cX7_again 61 = .ok (.iconst 0, 1) := by decide +kernel
theorem dX7_again_62 : decode cX7_again 62 = .ok (.putfield 94, 3) := by decide +kernel
theorem dX7_again_65 : decode cX7_again 65 = .ok (.aload_n 0, 1) := by decide +kernel
theorem dX7_again_66 : decode cX7_again 66 = .ok (.getfield 25, 3) := by decide +kernel
theorem dX7_again_69 : decode cX7_again 69 = .ok (.bipush 20, 2) := by decide +kernel
theorem dX7_again_71 : decode cX7_again 71 = .ok (.iaload, 1) := by decide +kernel
theorem dX7_again_72 : decode cX7_again 72 = .ok (.ireturn, 1) := by decide +kernel
end
section
/-! THE MEMORY: every int of every cell of the class and of the reference, as a mathematical integer. Cell numbers: 0 the class's object, 1 Text, 2 its letters, 3 Desk, 4..9 its rows, 10 Sightings, 11..13 its rows, 14 Tally, 15 Acts, 16 its ring, 17 the slots, 18 the reference's object, 19..31 its rows, then from 32 on by threes: a Moment, what it keeps, who wears (32 now, 35 the trial, 38 + 3 k the ring, 80 and 83 the slots) -/
def iI (z : Int) : Int32 := Int32.ofInt z
def iL (z : Int) : Int64 := Int64.ofInt z
theorem iI_add (a b : Int) : iI a + iI b = iI (a + b) := (Int32.ofInt_add a b).symm
theorem iI_sub (a b : Int) : iI a - iI b = iI (a - b) := (Int32.ofInt_sub a b).symm
theorem iI_mul (a b : Int) : iI a * iI b = iI (a * b) := (Int32.ofInt_mul a b).symm
theorem iI_of (x : Int32) : iI x.toInt = x := Int32.ofInt_toInt x
theorem iI_T {z : Int} (h : -2147483648 ≤ z ∧ z < 2147483648) : (iI z).toInt = z := Int32.toInt_ofInt_of_le h.1 h.2
theorem iI_lt {a b : Int} (ha : -2147483648 ≤ a ∧ a < 2147483648) (hb : -2147483648 ≤ b ∧ b < 2147483648) : iI a < iI b ↔ a < b := by
  rw [Int32.lt_iff_toInt_lt, iI_T ha, iI_T hb]
theorem iI_le {a b : Int} (ha : -2147483648 ≤ a ∧ a < 2147483648) (hb : -2147483648 ≤ b ∧ b < 2147483648) : iI a ≤ iI b ↔ a ≤ b := by
  rw [Int32.le_iff_toInt_le, iI_T ha, iI_T hb]
theorem iI_eq {a b : Int} (ha : -2147483648 ≤ a ∧ a < 2147483648) (hb : -2147483648 ≤ b ∧ b < 2147483648) : iI a = iI b ↔ a = b := by
  rw [← Int32.toInt_inj, iI_T ha, iI_T hb]
theorem iI_N {z : Int} (h : -2147483648 ≤ z ∧ z < 2147483648) : (iI z).toNatClampNeg = z.toNat := Int32.toNatClampNeg_ofInt_of_le h.1 h.2
theorem iI_0 : iI 0 = 0 := rfl
theorem iI_nI (n : Nat) : iI (n : Int) = nI n := Int32.ofInt_eq_ofNat
theorem iI_in {z : Int} {n : Nat} (h : 0 ≤ z ∧ z < n) (hn : n < 2147483648) : vp_in (iI z) n := by
  rw [vp_in_iff, iI_T (by omega)]
  exact h
theorem iI_div {a b : Int} (ha : 0 ≤ a ∧ a < 2147483648) (hb : 0 < b ∧ b < 2147483648) : iI a / iI b = iI (a / b) := by
  have h1 : (iI a).toInt = a := iI_T (by omega)
  have h2 : (iI b).toInt = b := iI_T (by omega)
  have h3 : 0 ≤ a / b := Int.ediv_nonneg ha.1 (by omega)
  have h4 : a / b ≤ a := Int.ediv_le_self b ha.1
  rw [← Int32.toInt_inj, lg_idiv_nonneg (by omega) (by omega), h1, h2, iI_T (by omega)]
theorem iI_rem {a b : Int} (ha : 0 ≤ a ∧ a < 2147483648) (hb : 0 < b ∧ b < 2147483648) : iI a - iI a / iI b * iI b = iI (a % b) := by
  rw [iI_div ha hb, iI_mul, iI_sub, Int.mul_comm, ← Int.emod_def]
theorem iI_divT {a b : Int} (ha : -2147483648 ≤ a ∧ a < 2147483648) (hb : 0 < b ∧ b < 2147483648) : iI a / iI b = iI (a.tdiv b) := by
  have h1 : (iI a).toInt = a := iI_T (by omega)
  have h2 : (iI b).toInt = b := iI_T (by omega)
  rw [← Int32.toInt_inj, Int32.toInt_div_of_ne_right _ _ (by intro h; rw [← Int32.toInt_inj, h2] at h; have : ((-1 : Int32)).toInt = -1 := by decide
                                                             omega), h1, h2]
  refine (iI_T ?_).symm
  rcases Int.le_total 0 a with h | h
  · rw [Int.tdiv_eq_ediv_of_nonneg h]
    have h3 : 0 ≤ a / b := Int.ediv_nonneg h (by omega)
    have h4 : a / b ≤ a := Int.ediv_le_self b h
    omega
  · have e : a = -(-a) := by omega
    rw [e, Int.neg_tdiv, Int.tdiv_eq_ediv_of_nonneg (by omega)]
    have h3 : 0 ≤ (-a) / b := Int.ediv_nonneg (by omega) (by omega)
    have h4 : (-a) / b ≤ -a := Int.ediv_le_self b (by omega)
    omega
theorem iI_remT {a b : Int} (ha : -2147483648 ≤ a ∧ a < 2147483648) (hb : 0 < b ∧ b < 2147483648) : iI a - iI a / iI b * iI b = iI (a.tmod b) := by
  rw [iI_divT ha hb, iI_mul, iI_sub]
  congr 1
  have := Int.tmod_add_mul_tdiv a b
  rw [Int.mul_comm]
  omega
abbrev Mem : Type := Nat → Int → Int
abbrev GT : Type := va_G × (Nat → Nat) × (Nat → Nat) × (Nat → ClassId) × Nat
def gD (g : GT) : va_G := g.1
def gA (g : GT) : Nat → Nat := g.2.1
def gT (g : GT) : Nat → Nat := g.2.2.1
def gC (g : GT) : Nat → ClassId := g.2.2.2.1
def gB (g : GT) : Nat := g.2.2.2.2
def tyG (g : GT) : List (ClassId × FieldType) := [(gC g 0, .int), (gC g 1, .boolean), (gC g 2, .object RX2)]
def gI (g : GT) (n : Nat) (r : Int → Int) : va_E := .inl (gC g 0, n, .inl (fun k => iI (r (k : Int))))
def gZ (g : GT) (n : Nat) (r : Int → Int) : va_E := .inl (gC g 1, n, .inl (fun k => iI (r (k : Int))))
def gQ (g : GT) (n : Nat) (f : Nat → Option Nat) : va_E := .inl (gC g 2, n, .inr (.inr (.inr (.inr f))))
/-- what a cell holds, by its number and its row of integers -/
def cel (g : GT) (i : Nat) (r : Int → Int) : va_E := match i with
  | 0 => .inr (6, [.ref (gA g 1), .ref (gA g 3), .ref (gA g 32), .ref (gA g 35), .ref (gA g 15), .ref (gA g 10), .ref (gA g 14), .ref (gA g 17), .long (iL (r 8))])
  | 1 => .inr (5, [.ref (gA g 2), .int (iI (r 1))])
  | 2 => gI g 40 r
  | 3 => .inr (1, [.ref (gA g 4), .ref (gA g 5), .ref (gA g 6), .ref (gA g 7), .ref (gA g 8), .ref (gA g 9), .int (iI (r 6)), .int (iI (r 7))])
  | 4 => gI g 5 r
  | 5 => gI g 5 r
  | 6 => gI g 5 r
  | 7 => gI g 4 r
  | 8 => gI g 4 r
  | 9 => gI g 4 r
  | 10 => .inr (3, [.ref (gA g 11), .ref (gA g 12), .ref (gA g 13), .int (iI (r 3))])
  | 11 => gI g 4 r
  | 12 => gI g 4 r
  | 13 => gI g 4 r
  | 14 => .inr (4, [.int (iI (r 0)), .int (iI (r 1))])
  | 15 => .inr (0, [.ref (gA g 16), .int (iI (r 1)), .int (iI (r 2))])
  | 16 => gQ g 14 (fun k => some (gA g (38 + 3 * k)))
  | 17 => gQ g 2 (fun k => some (gA g (80 + 3 * k)))
  | 18 => .inr (7, [.int (iI (r 0)), .ref (gA g 19), .int (iI (r 2)), .int (iI (r 3)), .int (iI (r 4)), .int (iI (r 5)), .ref (gA g 20), .ref (gA g 21), .int (iI (r 8)), .int (iI (r 9)), .ref (gA g 22), .ref (gA g 23), .ref (gA g 24), .ref (gA g 25), .ref (gA g 26), .int (iI (r 15)), .ref (gA g 27), .ref (gA g 28), .int (iI (r 18)), .ref (gA g 29), .ref (gA g 30), .ref (gA g 31), .long (iL (r 22)), .int (iI (r 23)), .int (iI (r 24)), .int (iI (r 25)), .int (iI (r 26)), .int (iI (r 27)), .int (iI (r 28)), .int (iI (r 29)), .int (iI (r 30))])
  | 19 => gI g 40 r
  | 20 => gI g 15 r
  | 21 => gI g 12 r
  | 22 => gI g 15 r
  | 23 => gI g 12 r
  | 24 => gI g 21 r
  | 25 => gI g 21 r
  | 26 => gI g 294 r
  | 27 => gI g 42 r
  | 28 => gZ g 2 r
  | 29 => gI g 4 r
  | 30 => gI g 4 r
  | 31 => gI g 4 r
  | n + 32 => if n % 3 = 0 then .inr (2, [.ref (gA g (n + 33)), .ref (gA g (n + 34)), .int (iI (r 2)), .int (iI (r 3))]) else gI g 4 r
/-- a Moment's number -/
abbrev isMo (o : Nat) : Prop := 32 ≤ o ∧ o < 86 ∧ o % 3 = 2
theorem ceMo {g : GT} {o : Nat} (h : isMo o) (r : Int → Int) : cel g o r = .inr (2, [.ref (gA g (o + 1)), .ref (gA g (o + 2)), .int (iI (r 2)), .int (iI (r 3))]) := by
  obtain ⟨n, rfl⟩ : ∃ n, o = n + 32 := ⟨o - 32, by omega⟩
  have : n % 3 = 0 := by omega
  simp [cel, this]
theorem ceMk {g : GT} {o : Nat} (h : isMo o) (r : Int → Int) : cel g (o + 1) r = gI g 4 r := by
  obtain ⟨n, rfl⟩ : ∃ n, o = n + 32 := ⟨o - 32, by omega⟩
  have : (n + 1) % 3 = 1 := by omega
  show cel g ((n + 1) + 32) r = _
  simp [cel, this]
theorem ceMw {g : GT} {o : Nat} (h : isMo o) (r : Int → Int) : cel g (o + 2) r = gI g 4 r := by
  obtain ⟨n, rfl⟩ : ∃ n, o = n + 32 := ⟨o - 32, by omega⟩
  have : (n + 2) % 3 = 2 := by omega
  show cel g ((n + 2) + 32) r = _
  simp [cel, this]
def big (g : GT) (M : Mem) : va_W := (List.range 86).map (fun i => (gA g i, cel g i (M i)))
/-- a row with one place changed; a memory with one place changed -/
def rw1 (r : Int → Int) (k z : Int) : Int → Int := fun q => if q = k then z else r q
def mset (M : Mem) (i : Nat) (k z : Int) : Mem := fun j => if j = i then rw1 (M i) k z else M j
theorem rw1_s (r : Int → Int) (k z : Int) : rw1 r k z k = z := by simp [rw1]
theorem rw1_n (r : Int → Int) {k q : Int} (z : Int) (h : q ≠ k) : rw1 r k z q = r q := by simp [rw1, h]
theorem mset_s (M : Mem) (i : Nat) (k z : Int) : mset M i k z i = rw1 (M i) k z := by simp [mset]
theorem mset_n (M : Mem) {i j : Nat} (k z : Int) (h : j ≠ i) : mset M i k z j = M j := by simp [mset, h]
theorem big_at {g : GT} {M : Mem} {i : Nat} (hi : i < 86) {e : va_E} (he : cel g i (M i) = e) : (big g M)[i]? = some (gA g i, e) := by
  subst he
  simp [big, hi]
theorem big_set {g : GT} {M : Mem} {i : Nat} (hi : i < 86) {k z : Int} {e : va_E} (he : cel g i (rw1 (M i) k z) = e) : (big g M).set i (gA g i, e) = big g (mset M i k z) := by
  subst he
  apply List.ext_getElem?
  intro j
  by_cases h : j = i
  · subst h
    rw [List.getElem?_set_self (by simpa [big] using hi)]
    simp [big, hi, mset]
  · rw [List.getElem?_set_ne (Ne.symm h)]
    by_cases hj : j < 86
    · simp [big, hj, mset, h]
    · simp [big, hj]
/-- the cells that a method may change: all that the law made -/
def AA (g : GT) : Nat → Prop := fun q => gB g ≤ q
/-- calls between nest mates -/
def nestL : List Cond := [.methodLinkNest RX1 58 yX6_put RX6, .methodLinkNest RX1 62 yX6_at RX6, .methodLinkNest RX1 72 yX6_lastOf RX6, .methodLinkNest RX1 78 yX6_firstOf RX6, .methodLinkNest RX1 84 yX6_withBehind RX6, .methodLinkNest RX2 32 yX6_put RX6, .methodLinkNest RX2 36 yX6_copyRow RX6, .methodLinkNest RX2 40 yX6_at RX6, .methodLinkNest RX3 25 yX6_put RX6, .methodLinkNest RX3 29 yX6_at RX6, .methodLinkNest RX5 19 yX6_put RX6, .methodLinkNest RX5 31 yX6_at RX6, .methodLinkNest RX5 58 yX6_within RX6]
def NW (U : State) : Prop := ∀ w ∈ nestL, va_Nw w U
/-- the four rows of figures of Text, which nobody writes: 0 a person's least, 1 a glove's least, 2 a person's most, 3 a glove's most -/
def stV (k : Nat) (j : Int) : Int := if k = 0 then (if j = 2 then 0 else 1) else if k = 1 then (if j = 0 then 1 else 0) else if k = 2 then (if j = 2 then 9 else 7) else (if j = 2 then 7 else 3)
def stN (k : Nat) : String := if k = 0 then "PERSON_LEAST" else if k = 1 then "GLOVE_LEAST" else if k = 2 then "PERSON_MOST" else "GLOVE_MOST"
def ST (g : GT) (U : State) (H : Heap) : Prop := ∀ k, k < 4 → va_Z RX5 (stN k) "[I" (.ref (gT g k)) (AA g) U H ∧ va_T .int (gT g k) 3 (fun j => .int (iI (stV k (j : Int)))) (AA g) U H
/-- the world at a call's start -/
def HP (g : GT) (M : Mem) (U : State) : Prop := va_K (gD g) vwCl (tyG g) U ∧ va_P (gD g) vwCl (big g M) U.heap ∧ va_D (AA g) (big g M) ∧ gB g ≤ U.heap.size ∧ NW U ∧ ST g U U.heap
/-- the world in a walk -/
def HI (g : GT) (s : State) (H : Heap) (locs : List Loc) (M : Mem) : Prop := va_K (gD g) vwCl (tyG g) s ∧ va_P (gD g) vwCl (big g M) H ∧ va_D (AA g) (big g M) ∧ va_S (AA g) s.heap H locs ∧ gB g ≤ s.heap.size ∧ NW s ∧ ST g s s.heap
/-- a method's end -/
def QV (g : GT) (post : Option Value → Mem → Prop) : Array Value → State → Outcome → State → Prop := fun _ st oc t => (∃ (v : Option Value) (u : Mem), oc = .returned v ∧ post v u ∧ va_P (gD g) vwCl (big g u) t.heap) ∧ va_F (AA g) st t
/-- a contract -/
def Ctr (l : Launch) (g : GT) (y : MethodName) (ws : List Cond) (rm : Room) (as : List Value) (M : Mem) (post : Option Value → Mem → Prop) : Prop := Met l y ws rm (va_Pc as (HP g M)) (QV g post) 0 0 (AA g)
def pI (z : Int) (M : Mem) : Option Value → Mem → Prop := fun v u => v = some (.int (iI z)) ∧ u = M
def pL (z : Int) (M : Mem) : Option Value → Mem → Prop := fun v u => v = some (.long (iL z)) ∧ u = M
def pV (M : Mem) : Option Value → Mem → Prop := fun v u => v = none ∧ u = M
def pR (a : Nat) (M : Mem) : Option Value → Mem → Prop := fun v u => v = some (.ref a) ∧ u = M
def pN (M : Mem) : Option Value → Mem → Prop := fun v u => v = some .null ∧ u = M
def pE (Z : Int → Mem → Prop) : Option Value → Mem → Prop := fun v u => ∃ z : Int, v = some (.int (iI z)) ∧ Z z u
def pX (Z : Mem → Prop) : Option Value → Mem → Prop := fun v u => v = none ∧ Z u
def bI (P : Prop) [Decidable P] : Int := if P then 1 else 0
theorem bI_t {P : Prop} [Decidable P] (h : P) : bI P = 1 := by simp [bI, h]
theorem bI_f {P : Prop} [Decidable P] (h : ¬ P) : bI P = 0 := by simp [bI, h]
theorem va_D_big {A : Nat → Prop} {g : GT} {M N : Mem} (h : va_D A (big g M)) : va_D A (big g N) := by
  have key : ∀ (k : Nat) (q : Nat × va_E), (big g N)[k]? = some q → ∃ q0, (big g M)[k]? = some q0 ∧ q0.1 = q.1 := by
    intro k q hk
    by_cases hj : k < 86
    · simp [big, hj] at hk ⊢
      rw [← hk]
    · simp [big, hj] at hk
  refine ⟨fun i j x y hi hj hxy => ?_, fun k q hk => ?_⟩
  · obtain ⟨x0, h1, h2⟩ := key i x hi
    obtain ⟨y0, h3, h4⟩ := key j y hj
    exact h.1 i j x0 y0 h1 h3 (h2.trans (hxy.trans h4.symm))
  · obtain ⟨q0, h1, h2⟩ := key k q hk
    rw [← h2]
    exact h.2 k q0 h1
theorem NW.warm {s U : State} (hW : s.WarmedH U.vm) (h : NW s) : NW U := by
  intro w hw
  have h0 := h w hw
  simp only [nestL, List.mem_cons, List.not_mem_nil, or_false] at hw
  rcases hw with rfl | rfl | rfl | rfl | rfl | rfl | rfl | rfl | rfl | rfl | rfl | rfl | rfl <;> exact va_Nw.warmM hW h0
theorem NW.same {u U : State} (h : u.vm = U.vm) (hN : NW u) : NW U := by
  intro w hw
  have h0 := hN w hw
  simp only [nestL, List.mem_cons, List.not_mem_nil, or_false] at hw
  rcases hw with rfl | rfl | rfl | rfl | rfl | rfl | rfl | rfl | rfl | rfl | rfl | rfl | rfl <;> exact va_Nw.same rfl h h0
theorem ST.moved {g : GT} {u U : State} {H : Heap} (hvm : u.vm.Alike U.vm) (h : ST g u H) : ST g U H := fun k hk => ⟨va_Z.moved hvm (h k hk).1, va_T.moved hvm (h k hk).2⟩
theorem ST.kept {g : GT} {U : State} {H H1 : Heap} (h : ST g U H) (hq : ∀ a : Nat, a < H.size → ¬ AA g a → H1[a]? = H[a]?) : ST g U H1 := fun k hk => ⟨va_Z.kept (h k hk).1 hq, va_T.kept (h k hk).2 hq⟩
theorem HP.blind (as : List Value) (g : GT) (M : Mem) : FrameBlind (va_Pc as (HP g M)) := by
  intro a U f mk h
  obtain ⟨h0, hK, hP, hD, hB, hN, hS⟩ := h
  exact ⟨h0, va_K.moved (u := U) (U := U.calling f mk a) (Vm.Alike.refl U.vm) hK, hP, hD, hB, NW.same (u := U) rfl hN, ST.moved (u := U) (U := U.calling f mk a) (Vm.Alike.refl U.vm) hS⟩
theorem HI.toHP {g : GT} {s : State} {H : Heap} {locs : List Loc} {M : Mem} (h : HI g s H locs M) {U : State} (hU : U.heap = H) (hW : s.WarmedH U.vm) : HP g M U := by
  obtain ⟨hK, hP, hD, hS, hB, hN, hT⟩ := h
  refine ⟨va_K.moved hW.alike hK, by rw [hU]; exact hP, hD, by rw [hU]; exact Nat.le_trans hB hS.1, NW.warm hW hN, ?_⟩
  rw [hU]
  exact (ST.moved hW.alike hT).kept (fun a h1 h2 => hS.2.1 a h1 h2)
end
section
section ROWS
variable {p : Program} {l : Launch} {e : Env} {R : Room} {s : State} {m : MethodId} {args : Array Value} {below : List Frame} {meth : Method} {c : Code} {H : Heap} {locs : List Loc} {cells slots : Nat} {Q : State → Prop}
variable {cc : ByteArray} {pc : Nat} {ls : Array Slot} {rest st0 : List Value} {nL : Nat} {Ts : List Cond} {own : String} {g : GT} {M : Mem}
/-! numbers -/
theorem r_iadd (hexec : p.tables.exec = Jvm.exec) (hb : c.code = cc) {x y : Int} (hdg : decode cc pc = .ok (.iadd, 1)) (k : W p l e R s m args below meth c H locs cells slots Q (F0 m (pc + 1) ls (.int (iI (x + y)) :: rest))) : W p l e R s m args below meth c H locs cells slots Q (F0 m pc ls (.int (iI y) :: .int (iI x) :: rest)) := lv_iadd hexec hb hdg (by rw [iI_add]; exact k)
theorem r_isub (hexec : p.tables.exec = Jvm.exec) (hb : c.code = cc) {x y : Int} (hdg : decode cc pc = .ok (.isub, 1)) (k : W p l e R s m args below meth c H locs cells slots Q (F0 m (pc + 1) ls (.int (iI (x - y)) :: rest))) : W p l e R s m args below meth c H locs cells slots Q (F0 m pc ls (.int (iI y) :: .int (iI x) :: rest)) := lv_isub hexec hb hdg (by rw [iI_sub]; exact k)
theorem r_imul (hexec : p.tables.exec = Jvm.exec) (hb : c.code = cc) {x y : Int} (hdg : decode cc pc = .ok (.imul, 1)) (k : W p l e R s m args below meth c H locs cells slots Q (F0 m (pc + 1) ls (.int (iI (x * y)) :: rest))) : W p l e R s m args below meth c H locs cells slots Q (F0 m pc ls (.int (iI y) :: .int (iI x) :: rest)) := lv_imul hexec hb hdg (by rw [iI_mul]; exact k)
theorem r_idiv (hexec : p.tables.exec = Jvm.exec) (hb : c.code = cc) {x y : Int} (hx : 0 ≤ x ∧ x < 2147483648) (hy : 0 < y ∧ y < 2147483648) (hdg : decode cc pc = .ok (.idiv, 1)) (k : W p l e R s m args below meth c H locs cells slots Q (F0 m (pc + 1) ls (.int (iI (x / y)) :: rest))) : W p l e R s m args below meth c H locs cells slots Q (F0 m pc ls (.int (iI y) :: .int (iI x) :: rest)) := by
  refine lv_idiv hexec hb hdg ?_ ?_
  · rw [← iI_0, iI_eq (by omega) (by omega)]; omega
  · rw [iI_div hx hy]; exact k
theorem r_irem (hexec : p.tables.exec = Jvm.exec) (hb : c.code = cc) {x y : Int} (hx : 0 ≤ x ∧ x < 2147483648) (hy : 0 < y ∧ y < 2147483648) (hdg : decode cc pc = .ok (.irem, 1)) (k : W p l e R s m args below meth c H locs cells slots Q (F0 m (pc + 1) ls (.int (iI (x % y)) :: rest))) : W p l e R s m args below meth c H locs cells slots Q (F0 m pc ls (.int (iI y) :: .int (iI x) :: rest)) := by
  refine lv_irem hexec hb hdg ?_ ?_
  · rw [← iI_0, iI_eq (by omega) (by omega)]; omega
  · rw [iI_rem hx hy]; exact k
theorem r_idivT (hexec : p.tables.exec = Jvm.exec) (hb : c.code = cc) {x y : Int} (hx : -2147483648 ≤ x ∧ x < 2147483648) (hy : 0 < y ∧ y < 2147483648) (hdg : decode cc pc = .ok (.idiv, 1)) (k : W p l e R s m args below meth c H locs cells slots Q (F0 m (pc + 1) ls (.int (iI (x.tdiv y)) :: rest))) : W p l e R s m args below meth c H locs cells slots Q (F0 m pc ls (.int (iI y) :: .int (iI x) :: rest)) := by
  refine lv_idiv hexec hb hdg ?_ ?_
  · rw [← iI_0, iI_eq (by omega) (by omega)]; omega
  · rw [iI_divT hx hy]; exact k
theorem r_iremT (hexec : p.tables.exec = Jvm.exec) (hb : c.code = cc) {x y : Int} (hx : -2147483648 ≤ x ∧ x < 2147483648) (hy : 0 < y ∧ y < 2147483648) (hdg : decode cc pc = .ok (.irem, 1)) (k : W p l e R s m args below meth c H locs cells slots Q (F0 m (pc + 1) ls (.int (iI (x.tmod y)) :: rest))) : W p l e R s m args below meth c H locs cells slots Q (F0 m pc ls (.int (iI y) :: .int (iI x) :: rest)) := by
  refine lv_irem hexec hb hdg ?_ ?_
  · rw [← iI_0, iI_eq (by omega) (by omega)]; omega
  · rw [iI_remT hx hy]; exact k
/-! branches: of two numbers, of one number and 0, of a truth value -/
theorem r_icmp_eq (hexec : p.tables.exec = Jvm.exec) (hb : c.code = cc) {x y : Int} {off : Int} {tgt : Nat} (hx : -2147483648 ≤ x ∧ x < 2147483648) (hy : -2147483648 ≤ y ∧ y < 2147483648) (hdg : decode cc pc = .ok (.if_icmp .eq off, 3)) (ht : (pc : Int) + off = (tgt : Int)) (kt : x = y → W p l e R s m args below meth c H locs cells slots Q (F0 m tgt ls rest)) (kf : ¬ x = y → W p l e R s m args below meth c H locs cells slots Q (F0 m (pc + 3) ls rest)) : W p l e R s m args below meth c H locs cells slots Q (F0 m pc ls (.int (iI y) :: .int (iI x) :: rest)) := lv_icmp_eq hexec hb hdg ht (fun h => kt ((iI_eq hx hy).mp h)) (fun h => kf (fun q => h ((iI_eq hx hy).mpr q)))
theorem r_icmp_ne (hexec : p.tables.exec = Jvm.exec) (hb : c.code = cc) {x y : Int} {off : Int} {tgt : Nat} (hx : -2147483648 ≤ x ∧ x < 2147483648) (hy : -2147483648 ≤ y ∧ y < 2147483648) (hdg : decode cc pc = .ok (.if_icmp .ne off, 3)) (ht : (pc : Int) + off = (tgt : Int)) (kt : ¬ x = y → W p l e R s m args below meth c H locs cells slots Q (F0 m tgt ls rest)) (kf : x = y → W p l e R s m args below meth c H locs cells slots Q (F0 m (pc + 3) ls rest)) : W p l e R s m args below meth c H locs cells slots Q (F0 m pc ls (.int (iI y) :: .int (iI x) :: rest)) := lv_icmp_ne hexec hb hdg ht (fun h => kt (fun q => h ((iI_eq hx hy).mpr q))) (fun h => kf ((iI_eq hx hy).mp h))
theorem r_icmp_lt (hexec : p.tables.exec = Jvm.exec) (hb : c.code = cc) {x y : Int} {off : Int} {tgt : Nat} (hx : -2147483648 ≤ x ∧ x < 2147483648) (hy : -2147483648 ≤ y ∧ y < 2147483648) (hdg : decode cc pc = .ok (.if_icmp .lt off, 3)) (ht : (pc : Int) + off = (tgt : Int)) (kt : x < y → W p l e R s m args below meth c H locs cells slots Q (F0 m tgt ls rest)) (kf : ¬ x < y → W p l e R s m args below meth c H locs cells slots Q (F0 m (pc + 3) ls rest)) : W p l e R s m args below meth c H locs cells slots Q (F0 m pc ls (.int (iI y) :: .int (iI x) :: rest)) := lv_icmp_lt hexec hb hdg ht (fun h => kt ((iI_lt hx hy).mp h)) (fun h => kf (fun q => h ((iI_lt hx hy).mpr q)))
theorem r_icmp_ge (hexec : p.tables.exec = Jvm.exec) (hb : c.code = cc) {x y : Int} {off : Int} {tgt : Nat} (hx : -2147483648 ≤ x ∧ x < 2147483648) (hy : -2147483648 ≤ y ∧ y < 2147483648) (hdg : decode cc pc = .ok (.if_icmp .ge off, 3)) (ht : (pc : Int) + off = (tgt : Int)) (kt : y ≤ x → W p l e R s m args below meth c H locs cells slots Q (F0 m tgt ls rest)) (kf : ¬ y ≤ x → W p l e R s m args below meth c H locs cells slots Q (F0 m (pc + 3) ls rest)) : W p l e R s m args below meth c H locs cells slots Q (F0 m pc ls (.int (iI y) :: .int (iI x) :: rest)) := lv_icmp_ge hexec hb hdg ht (fun h => kt ((iI_le hy hx).mp h)) (fun h => kf (fun q => h ((iI_le hy hx).mpr q)))
theorem r_icmp_gt (hexec : p.tables.exec = Jvm.exec) (hb : c.code = cc) {x y : Int} {off : Int} {tgt : Nat} (hx : -2147483648 ≤ x ∧ x < 2147483648) (hy : -2147483648 ≤ y ∧ y < 2147483648) (hdg : decode cc pc = .ok (.if_icmp .gt off, 3)) (ht : (pc : Int) + off = (tgt : Int)) (kt : y < x → W p l e R s m args below meth c H locs cells slots Q (F0 m tgt ls rest)) (kf : ¬ y < x → W p l e R s m args below meth c H locs cells slots Q (F0 m (pc + 3) ls rest)) : W p l e R s m args below meth c H locs cells slots Q (F0 m pc ls (.int (iI y) :: .int (iI x) :: rest)) := lv_icmp_gt hexec hb hdg ht (fun h => kt ((iI_lt hy hx).mp h)) (fun h => kf (fun q => h ((iI_lt hy hx).mpr q)))
theorem r_icmp_le (hexec : p.tables.exec = Jvm.exec) (hb : c.code = cc) {x y : Int} {off : Int} {tgt : Nat} (hx : -2147483648 ≤ x ∧ x < 2147483648) (hy : -2147483648 ≤ y ∧ y < 2147483648) (hdg : decode cc pc = .ok (.if_icmp .le off, 3)) (ht : (pc : Int) + off = (tgt : Int)) (kt : x ≤ y → W p l e R s m args below meth c H locs cells slots Q (F0 m tgt ls rest)) (kf : ¬ x ≤ y → W p l e R s m args below meth c H locs cells slots Q (F0 m (pc + 3) ls rest)) : W p l e R s m args below meth c H locs cells slots Q (F0 m pc ls (.int (iI y) :: .int (iI x) :: rest)) := lv_icmp_le hexec hb hdg ht (fun h => kt ((iI_le hx hy).mp h)) (fun h => kf (fun q => h ((iI_le hx hy).mpr q)))
theorem r_if_eq (hexec : p.tables.exec = Jvm.exec) (hb : c.code = cc) {x : Int} {off : Int} {tgt : Nat} (hx : -2147483648 ≤ x ∧ x < 2147483648) (hdg : decode cc pc = .ok (.ifCond .eq off, 3)) (ht : (pc : Int) + off = (tgt : Int)) (kt : x = 0 → W p l e R s m args below meth c H locs cells slots Q (F0 m tgt ls rest)) (kf : ¬ x = 0 → W p l e R s m args below meth c H locs cells slots Q (F0 m (pc + 3) ls rest)) : W p l e R s m args below meth c H locs cells slots Q (F0 m pc ls (.int (iI x) :: rest)) := lv_if_eq hexec hb hdg ht (fun h => kt ((iI_eq hx (by omega)).mp h)) (fun h => kf (fun q => h ((iI_eq hx (by omega)).mpr q)))
theorem r_if_ne (hexec : p.tables.exec = Jvm.exec) (hb : c.code = cc) {x : Int} {off : Int} {tgt : Nat} (hx : -2147483648 ≤ x ∧ x < 2147483648) (hdg : decode cc pc = .ok (.ifCond .ne off, 3)) (ht : (pc : Int) + off = (tgt : Int)) (kt : ¬ x = 0 → W p l e R s m args below meth c H locs cells slots Q (F0 m tgt ls rest)) (kf : x = 0 → W p l e R s m args below meth c H locs cells slots Q (F0 m (pc + 3) ls rest)) : W p l e R s m args below meth c H locs cells slots Q (F0 m pc ls (.int (iI x) :: rest)) := lv_if_ne hexec hb hdg ht (fun h => kt (fun q => h ((iI_eq hx (by omega)).mpr q))) (fun h => kf ((iI_eq hx (by omega)).mp h))
theorem r_if_lt (hexec : p.tables.exec = Jvm.exec) (hb : c.code = cc) {x : Int} {off : Int} {tgt : Nat} (hx : -2147483648 ≤ x ∧ x < 2147483648) (hdg : decode cc pc = .ok (.ifCond .lt off, 3)) (ht : (pc : Int) + off = (tgt : Int)) (kt : x < 0 → W p l e R s m args below meth c H locs cells slots Q (F0 m tgt ls rest)) (kf : ¬ x < 0 → W p l e R s m args below meth c H locs cells slots Q (F0 m (pc + 3) ls rest)) : W p l e R s m args below meth c H locs cells slots Q (F0 m pc ls (.int (iI x) :: rest)) := lv_if_lt hexec hb hdg ht (fun h => kt ((iI_lt hx (by omega)).mp h)) (fun h => kf (fun q => h ((iI_lt hx (by omega)).mpr q)))
theorem r_if_ge (hexec : p.tables.exec = Jvm.exec) (hb : c.code = cc) {x : Int} {off : Int} {tgt : Nat} (hx : -2147483648 ≤ x ∧ x < 2147483648) (hdg : decode cc pc = .ok (.ifCond .ge off, 3)) (ht : (pc : Int) + off = (tgt : Int)) (kt : 0 ≤ x → W p l e R s m args below meth c H locs cells slots Q (F0 m tgt ls rest)) (kf : ¬ 0 ≤ x → W p l e R s m args below meth c H locs cells slots Q (F0 m (pc + 3) ls rest)) : W p l e R s m args below meth c H locs cells slots Q (F0 m pc ls (.int (iI x) :: rest)) := lv_if_ge hexec hb hdg ht (fun h => kt ((iI_le (by omega) hx).mp h)) (fun h => kf (fun q => h ((iI_le (by omega) hx).mpr q)))
theorem r_if_gt (hexec : p.tables.exec = Jvm.exec) (hb : c.code = cc) {x : Int} {off : Int} {tgt : Nat} (hx : -2147483648 ≤ x ∧ x < 2147483648) (hdg : decode cc pc = .ok (.ifCond .gt off, 3)) (ht : (pc : Int) + off = (tgt : Int)) (kt : 0 < x → W p l e R s m args below meth c H locs cells slots Q (F0 m tgt ls rest)) (kf : ¬ 0 < x → W p l e R s m args below meth c H locs cells slots Q (F0 m (pc + 3) ls rest)) : W p l e R s m args below meth c H locs cells slots Q (F0 m pc ls (.int (iI x) :: rest)) := lv_if_gt hexec hb hdg ht (fun h => kt ((iI_lt (by omega) hx).mp h)) (fun h => kf (fun q => h ((iI_lt (by omega) hx).mpr q)))
theorem r_if_le (hexec : p.tables.exec = Jvm.exec) (hb : c.code = cc) {x : Int} {off : Int} {tgt : Nat} (hx : -2147483648 ≤ x ∧ x < 2147483648) (hdg : decode cc pc = .ok (.ifCond .le off, 3)) (ht : (pc : Int) + off = (tgt : Int)) (kt : x ≤ 0 → W p l e R s m args below meth c H locs cells slots Q (F0 m tgt ls rest)) (kf : ¬ x ≤ 0 → W p l e R s m args below meth c H locs cells slots Q (F0 m (pc + 3) ls rest)) : W p l e R s m args below meth c H locs cells slots Q (F0 m pc ls (.int (iI x) :: rest)) := lv_if_le hexec hb hdg ht (fun h => kt ((iI_le hx (by omega)).mp h)) (fun h => kf (fun q => h ((iI_le hx (by omega)).mpr q)))
theorem bI_R (P : Prop) [Decidable P] : -2147483648 ≤ bI P ∧ bI P < 2147483648 := by unfold bI; split <;> omega
theorem r_b_eq (hexec : p.tables.exec = Jvm.exec) (hb : c.code = cc) {P : Prop} [Decidable P] {off : Int} {tgt : Nat} (hdg : decode cc pc = .ok (.ifCond .eq off, 3)) (ht : (pc : Int) + off = (tgt : Int)) (kt : ¬ P → W p l e R s m args below meth c H locs cells slots Q (F0 m tgt ls rest)) (kf : P → W p l e R s m args below meth c H locs cells slots Q (F0 m (pc + 3) ls rest)) : W p l e R s m args below meth c H locs cells slots Q (F0 m pc ls (.int (iI (bI P)) :: rest)) := r_if_eq hexec hb (bI_R P) hdg ht (fun h => kt (fun q => by rw [bI_t q] at h; omega)) (fun h => kf (Decidable.byContradiction fun q => h (bI_f q)))
theorem r_b_ne (hexec : p.tables.exec = Jvm.exec) (hb : c.code = cc) {P : Prop} [Decidable P] {off : Int} {tgt : Nat} (hdg : decode cc pc = .ok (.ifCond .ne off, 3)) (ht : (pc : Int) + off = (tgt : Int)) (kt : P → W p l e R s m args below meth c H locs cells slots Q (F0 m tgt ls rest)) (kf : ¬ P → W p l e R s m args below meth c H locs cells slots Q (F0 m (pc + 3) ls rest)) : W p l e R s m args below meth c H locs cells slots Q (F0 m pc ls (.int (iI (bI P)) :: rest)) := r_if_ne hexec hb (bI_R P) hdg ht (fun h => kt (Decidable.byContradiction fun q => h (bI_f q))) (fun h => kf (fun q => by rw [bI_t q] at h; omega))
/-! cells -/
theorem r_get (C : CallFix p m c cc nL s args Ts own) (hI : HI g s H locs M) (i : Nat) (hi : i < 86) {ci : Nat} {fs : List Value} (he : cel g i (M i) = .inr (ci, fs)) {Cn : String} {T : u_T} {N index : Nat} (hc : vwCl[ci]? = some (Cn, T, N)) (hin : ∀ w ∈ u_ws Cn T N, w ∈ Ts) (k : Nat) (hk : k < N) {fn fd : String} (hlink : Cond.fieldLink own index Cn fn fd ∈ Ts) (hT : (T k).1 = Cn ∧ (T k).2.1 = fn ∧ (T k).2.2.1 = fd) {v : Value} (hv : fs[k]? = some v) (hdg : decode cc pc = .ok (.getfield index, 3))
    (kk : W p l e R s m args below meth c H locs cells slots Q (F0 m (pc + 3) ls (v :: rest))) : W p l e R s m args below meth c H locs cells slots Q (F0 m pc ls (.ref (gA g i) :: rest)) := by
  obtain ⟨h1, h2, h3⟩ := hT
  exact va_get (D := gD g) (cl := vwCl) (ws := big g M) (ref := Cn) C.1 C.2.1 C.2.2.2.2 hin C.2.2.2.1 hI.1 hI.2.1 i (big_at hi he) hc k hk (by rw [h2, h3]; exact C.2.2.2.2 _ hlink) (fun x h => by rw [h1] at h; exact h) hv hdg kk
theorem r_put (C : CallFix p m c cc nL s args Ts own) (hI : HI g s H locs M) (i : Nat) (hi : i < 86) {ci : Nat} {fs : List Value} (he : cel g i (M i) = .inr (ci, fs)) {Cn : String} {T : u_T} {N index : Nat} (hc : vwCl[ci]? = some (Cn, T, N)) (ty0 : Nat → FieldType) (hty : ∀ k, k < N → parseFieldDescriptor (T k).2.2.1 = some (ty0 k)) (hnm : ∀ a, a < N → ∀ b, b < N → a ≠ b → (T a).2.1 ≠ (T b).2.1) (hin : ∀ w ∈ u_ws Cn T N, w ∈ Ts) (k : Nat) (hk : k < N) {fn fd : String} (hlink : Cond.fieldLink own index Cn fn fd ∈ Ts) (hT : (T k).1 = Cn ∧ (T k).2.1 = fn ∧ (T k).2.2.1 = fd) (hfin : (T k).2.2.2 = false) {v : Value} {z : Int} (hnar : narrow (ty0 k) v = v) (hfit : fits (ty0 k) v = true) (hl : k < fs.length) (hs : cel g i (rw1 (M i) k z) = .inr (ci, fs.set k v)) (hdg : decode cc pc = .ok (.putfield index, 3))
    (kk : ∀ (H : Heap) (locs : List Loc), HI g s H locs (mset M i k z) → W p l e R s m args below meth c H locs cells slots Q (F0 m (pc + 3) ls rest)) : W p l e R s m args below meth c H locs cells slots Q (F0 m pc ls (v :: .ref (gA g i) :: rest)) := by
  obtain ⟨h1, h2, h3⟩ := hT
  refine va_put (D := gD g) (cl := vwCl) (ws := big g M) (A := AA g) (ref := Cn) C.1 C.2.1 C.2.2.2.2 hin ty0 hty hnm C.2.2.2.1 hI.1 hI.2.1 hI.2.2.1 hI.2.2.2.1 i (big_at hi he) hc k hk (by rw [h2, h3]; exact C.2.2.2.2 _ hlink) (fun x h => by rw [h1] at h; exact h) hfin (hty k hk) hnar hfit hl hdg (fun H1 locs1 hP hD hS => ?_)
  rw [big_set hi hs] at hP hD
  exact kk H1 locs1 ⟨hI.1, hP, hD, hS, hI.2.2.2.2⟩
theorem r_ald (C : CallFix p m c cc nL s args Ts own) (hI : HI g s H locs M) (i : Nat) (hi : i < 86) {n : Nat} (he : cel g i (M i) = gI g n (M i)) {z : Int} (hz : 0 ≤ z ∧ z < n) (hn : n < 2147483648) (hdg : decode cc pc = .ok (.iaload, 1))
    (kk : W p l e R s m args below meth c H locs cells slots Q (F0 m (pc + 1) ls (.int (iI (M i z)) :: rest))) : W p l e R s m args below meth c H locs cells slots Q (F0 m pc ls (.int (iI z) :: .ref (gA g i) :: rest)) := by
  refine va_iald (D := gD g) (cl := vwCl) (ws := big g M) C.1 C.2.1 hI.1 hI.2.1 i 0 (big_at hi he) rfl (iI_in hz hn) hdg ?_
  rw [iI_N (by omega), Int.toNat_of_nonneg hz.1]
  exact kk
theorem r_zld (C : CallFix p m c cc nL s args Ts own) (hI : HI g s H locs M) (i : Nat) (hi : i < 86) {n : Nat} (he : cel g i (M i) = gZ g n (M i)) {z : Int} (hz : 0 ≤ z ∧ z < n) (hn : n < 2147483648) (hdg : decode cc pc = .ok (.baload, 1))
    (kk : W p l e R s m args below meth c H locs cells slots Q (F0 m (pc + 1) ls (.int (iI (M i z)) :: rest))) : W p l e R s m args below meth c H locs cells slots Q (F0 m pc ls (.int (iI z) :: .ref (gA g i) :: rest)) := by
  refine va_zald (D := gD g) (cl := vwCl) (ws := big g M) C.1 C.2.1 hI.1 hI.2.1 i 1 (big_at hi he) rfl (iI_in hz hn) hdg ?_
  rw [iI_N (by omega), Int.toNat_of_nonneg hz.1]
  exact kk
theorem upd_rw1 {r : Int → Int} {z v : Int} (hz : 0 ≤ z ∧ z < 2147483648) : upd (fun k : Nat => iI (r (k : Int))) (iI z).toNatClampNeg (iI v) = fun k : Nat => iI (rw1 r z v (k : Int)) := by
  funext k
  rw [iI_N (by omega)]
  by_cases h : k = z.toNat
  · subst h
    simp [upd, rw1, Int.toNat_of_nonneg hz.1]
  · have h2 : ¬ (k : Int) = z := fun q => h (by omega)
    simp [upd, rw1, h, h2]
theorem r_ast (C : CallFix p m c cc nL s args Ts own) (hI : HI g s H locs M) (i : Nat) (hi : i < 86) {n : Nat} (he : ∀ r, cel g i r = gI g n r) {z v : Int} (hz : 0 ≤ z ∧ z < n) (hn : n < 2147483648) (hdg : decode cc pc = .ok (.iastore, 1))
    (kk : ∀ (H : Heap) (locs : List Loc), HI g s H locs (mset M i z v) → W p l e R s m args below meth c H locs cells slots Q (F0 m (pc + 1) ls rest)) : W p l e R s m args below meth c H locs cells slots Q (F0 m pc ls (.int (iI v) :: .int (iI z) :: .ref (gA g i) :: rest)) := by
  refine va_iast (D := gD g) (cl := vwCl) (ws := big g M) (A := AA g) C.1 C.2.1 hI.1 hI.2.1 hI.2.2.1 hI.2.2.2.1 i 0 (big_at hi (he _)) rfl (iI_in hz hn) hdg (fun H1 locs1 hP hD hS => ?_)
  have e : (big g M).set i (gA g i, .inl (gC g 0, n, .inl (upd (fun k : Nat => iI (M i (k : Int))) (iI z).toNatClampNeg (iI v)))) = big g (mset M i z v) := by
    rw [upd_rw1 (by omega)]
    exact big_set hi (he _)
  rw [e] at hP hD
  exact kk H1 locs1 ⟨hI.1, hP, hD, hS, hI.2.2.2.2⟩
theorem r_alen (C : CallFix p m c cc nL s args Ts own) (hI : HI g s H locs M) (i : Nat) (hi : i < 86) {n : Nat} (he : cel g i (M i) = gI g n (M i)) (hdg : decode cc pc = .ok (.arraylength, 1))
    (kk : W p l e R s m args below meth c H locs cells slots Q (F0 m (pc + 1) ls (.int (iI (n : Int)) :: rest))) : W p l e R s m args below meth c H locs cells slots Q (F0 m pc ls (.ref (gA g i) :: rest)) :=
  va_alen (D := gD g) (cl := vwCl) (ws := big g M) C.1 C.2.1 hI.1 hI.2.1 i 0 (big_at hi he) rfl (v := iI (n : Int)) (iI_nI n).symm hdg kk
theorem r_qlen (C : CallFix p m c cc nL s args Ts own) (hI : HI g s H locs M) (i : Nat) (hi : i < 86) {n : Nat} {f : Nat → Option Nat} (he : cel g i (M i) = gQ g n f) (hdg : decode cc pc = .ok (.arraylength, 1))
    (kk : W p l e R s m args below meth c H locs cells slots Q (F0 m (pc + 1) ls (.int (iI (n : Int)) :: rest))) : W p l e R s m args below meth c H locs cells slots Q (F0 m pc ls (.ref (gA g i) :: rest)) :=
  va_alen (D := gD g) (cl := vwCl) (ws := big g M) C.1 C.2.1 hI.1 hI.2.1 i 2 (big_at hi he) rfl (v := iI (n : Int)) (iI_nI n).symm hdg kk
theorem r_qld (C : CallFix p m c cc nL s args Ts own) (hI : HI g s H locs M) (i : Nat) (hi : i < 86) {n : Nat} {f : Nat → Option Nat} (he : cel g i (M i) = gQ g n f) {z : Int} (hz : 0 ≤ z ∧ z < n) (hn : n < 2147483648) {a : Nat} (hf : f z.toNat = some a) (hdg : decode cc pc = .ok (.aaload, 1))
    (kk : W p l e R s m args below meth c H locs cells slots Q (F0 m (pc + 1) ls (.ref a :: rest))) : W p l e R s m args below meth c H locs cells slots Q (F0 m pc ls (.int (iI z) :: .ref (gA g i) :: rest)) := by
  refine va_aldq (D := gD g) (cl := vwCl) (ws := big g M) C.1 C.2.1 hI.1 hI.2.1 i 2 (big_at hi he) rfl (iI_in hz hn) hdg ?_
  rw [iI_N (by omega), hf]
  exact kk
/-! the start, the ends, calls -/
theorem QV.of {post : Option Value → Mem → Prop} {v : Option Value} {as : Array Value} (hI : HI g s H locs M) (hp : post v M) {t : State} (ht : t.heap = H) : QV g post as s (.returned v) t := by
  refine ⟨⟨v, M, rfl, hp, ?_⟩, hI.2.2.2.1.F ht⟩
  rw [ht]
  exact hI.2.1
theorem r_iret (C : CallFix p m c cc nL s args Ts own) (hr : meth.sig.returnType = some .int) (hlk : meth.locks = false) (hI : HI g s H locs M) {post : Option Value → Mem → Prop} {v : Int32} (hp : post (some (.int v)) M) (hdg : decode cc pc = .ok (.ireturn, 1)) : W p l e R s m args below meth c H locs cells slots (MQ below (QV g post) args s cells slots (AA g)) (F0 m pc ls [.int v]) :=
  W.iret C.1 C.2.1 hr (fun t ht _ => QV.of hI hp ht) hI.2.2.2.1.2.2 hdg hlk
theorem r_zret (C : CallFix p m c cc nL s args Ts own) (hr : meth.sig.returnType = some .boolean) (hlk : meth.locks = false) (hI : HI g s H locs M) {post : Option Value → Mem → Prop} {v : Int32} (hn : narrow .boolean (.int v) = .int v) (hp : post (some (.int v)) M) (hdg : decode cc pc = .ok (.ireturn, 1)) : W p l e R s m args below meth c H locs cells slots (MQ below (QV g post) args s cells slots (AA g)) (F0 m pc ls [.int v]) :=
  W.zret C.1 C.2.1 hr hn (fun t ht _ => QV.of hI hp ht) hI.2.2.2.1.2.2 hdg hlk
theorem r_lret (C : CallFix p m c cc nL s args Ts own) (hr : meth.sig.returnType = some .long) (hlk : meth.locks = false) (hI : HI g s H locs M) {post : Option Value → Mem → Prop} {v : Int64} (hp : post (some (.long v)) M) (hdg : decode cc pc = .ok (.lreturn, 1)) : W p l e R s m args below meth c H locs cells slots (MQ below (QV g post) args s cells slots (AA g)) (F0 m pc ls [.long v]) :=
  W.lret C.1 C.2.1 hr (fun t ht _ => QV.of hI hp ht) hI.2.2.2.1.2.2 hdg hlk
theorem r_vret (C : CallFix p m c cc nL s args Ts own) (hr : meth.sig.returnType = none) (hlk : meth.locks = false) (hI : HI g s H locs M) {post : Option Value → Mem → Prop} (hp : post none M) (hdg : decode cc pc = .ok (.return_, 1)) : W p l e R s m args below meth c H locs cells slots (MQ below (QV g post) args s cells slots (AA g)) (F0 m pc ls []) :=
  W.vret C.1 C.2.1 hr (fun t ht _ => QV.of hI hp ht) hI.2.2.2.1.2.2 hdg hlk
theorem r_run (hI : HI g s H locs M) {post : Option Value → Mem → Prop} {a : Array Value} (hr : va_Run p l e R s m args below meth c H locs cells slots 0 0 (F0 m pc ls st0) rest (QV g post a) (AA g))
    (kk : ∀ (v : Option Value) (M : Mem) (H : Heap) (locs : List Loc), post v M → HI g s H locs M → W p l e R s m args below meth c H locs cells slots Q (F0 m (pc + 3) ls (v.toList ++ rest))) : W p l e R s m args below meth c H locs cells slots Q (F0 m pc ls st0) := by
  obtain ⟨hK, hP, hD, hS, hB, hN, hT⟩ := hI
  intro T hTh X
  obtain ⟨v, st₀, t, T', L, h0, X', hL, e1, e2, ⟨⟨v', u, hv, hp, hb⟩, hz, hk⟩, st⟩ := hr T hTh X
  cases hv
  rw [h0] at hz hk
  have hA : ∀ q, s.heap.size ≤ q → AA g q := fun q h => Nat.le_trans hB h
  obtain ⟨t2, a1, b1⟩ := kk v u T'.heap (locs ++ L) hp ⟨hK, by rw [e1]; exact hb, va_D_big hD, ⟨Nat.le_trans hS.1 (by rw [e1]; exact hz), fun q h1 h2 => by rw [e1, hk q (Nat.lt_of_lt_of_le h1 hS.1) h2]; exact hS.2.1 q h1 h2, fun q hq => by
    rcases List.mem_append.mp hq with h | h
    · exact hS.2.2 q h
    · exact hL q h⟩, hB, hN, hT⟩ T' rfl X'
  exact ⟨t2, st t2 a1, b1⟩
theorem r_recv (hI : HI g s H locs M) {i : Nat} (hi : i < 86) {ci : Nat} {fs : List Value} (he : cel g i (M i) = .inr (ci, fs)) {q : vw_C} (hc : vwCl[ci]? = some q) : ∃ cell : Cell, H[gA g i]? = some cell ∧ cell.vm.isStatics = false ∧ s.vm.findClass q.1 = some cell.cls :=
  va_recv (cl := vwCl) hI.1 hI.2.1 hc (big_at hi he)
theorem r_iv (C : CallFix p m c cc nL s args Ts own) (hI : HI g s H locs M) {y : MethodName} {bytes : ByteArray} {maxL index n i : Nat} {ret : Option FieldType} {ws : List Cond} {rm : Room} {post : Option Value → Mem → Prop} {As : List Value} {Cn : String} {T : u_T} {N : Nat} (ct : Ctr l g y ws rm (.ref (gA g i) :: As) M post) (cw : CallW R s args own Cn index y bytes maxL ret ws rm 0 0 n) (hi : i < 86) {ci : Nat} {fs : List Value} (he : cel g i (M i) = .inr (ci, fs)) (hc : vwCl[ci]? = some (Cn, T, N)) (hn : As.length = n) (hs : ls.size = nL) (hst : st0 = As.reverse ++ .ref (gA g i) :: rest) (hW : (rest.map fun v => v.category).sum ≤ 8) (hdg : decode cc pc = .ok (.invokevirtual index, 3)) (hf : cells ≤ R.cells ∧ slots ≤ R.slots)
    (kk : ∀ (v : Option Value) (M : Mem) (H : Heap) (locs : List Loc), post v M → HI g s H locs M → W p l e R s m args below meth c H locs cells slots Q (F0 m (pc + 3) ls (v.toList ++ rest))) : W p l e R s m args below meth c H locs cells slots Q (F0 m pc ls st0) :=
  r_run hI (va_runV (b := gA g i) (As := As) (rest := rest) C ct cw ⟨HP.blind _ g M, r_recv hI hi he hc, fun U hU hW => ⟨rfl, hI.toHP hU hW⟩⟩ rfl hn hs hst (lv_room hW) hdg hf) kk
theorem r_is (C : CallFix p m c cc nL s args Ts own) (hI : HI g s H locs M) {y : MethodName} {bytes : ByteArray} {maxL index n : Nat} {ret : Option FieldType} {ws : List Cond} {rm : Room} {post : Option Value → Mem → Prop} {As : List Value} (ct : Ctr l g y ws rm As M post) (cw : CallB R s args own index y bytes maxL ret ws rm 0 0 n ∧ (Cond.static y).before args s = true) (hn : As.length = n) (hs : ls.size = nL) (hst : st0 = As.reverse ++ rest) (hW : (rest.map fun v => v.category).sum ≤ 8) (hdg : decode cc pc = .ok (.invokestatic index, 3)) (hf : cells ≤ R.cells ∧ slots ≤ R.slots)
    (kk : ∀ (v : Option Value) (M : Mem) (H : Heap) (locs : List Loc), post v M → HI g s H locs M → W p l e R s m args below meth c H locs cells slots Q (F0 m (pc + 3) ls (v.toList ++ rest))) : W p l e R s m args below meth c H locs cells slots Q (F0 m pc ls st0) :=
  r_run hI (va_runS (As := As) (rest := rest) C ct cw ⟨HP.blind _ g M, fun U hU hW => ⟨rfl, hI.toHP hU hW⟩⟩ rfl hn hs hst (lv_room hW) hdg hf) kk
theorem r_isn (C : CallFix p m c cc nL s args Ts own) (hI : HI g s H locs M) {y : MethodName} {bytes : ByteArray} {maxL index n : Nat} {host : String} {ret : Option FieldType} {ws : List Cond} {rm : Room} {post : Option Value → Mem → Prop} {As : List Value} (ct : Ctr l g y ws rm As M post) (cw : va_CN R s args own index y host bytes maxL ret ws rm 0 0 n ∧ (Cond.static y).before args s = true ∧ True) (hn : As.length = n) (hs : ls.size = nL) (hst : st0 = As.reverse ++ rest) (hW : (rest.map fun v => v.category).sum ≤ 8) (hdg : decode cc pc = .ok (.invokestatic index, 3)) (hf : cells ≤ R.cells ∧ slots ≤ R.slots)
    (kk : ∀ (v : Option Value) (M : Mem) (H : Heap) (locs : List Loc), post v M → HI g s H locs M → W p l e R s m args below meth c H locs cells slots Q (F0 m (pc + 3) ls (v.toList ++ rest))) : W p l e R s m args below meth c H locs cells slots Q (F0 m pc ls st0) :=
  r_run hI (va_runSN (As := As) (rest := rest) C ct cw ⟨HP.blind _ g M, fun U hU hW => ⟨rfl, hI.toHP hU hW⟩⟩ rfl hn hs hst (lv_room hW) hdg hf) kk
theorem k_I {z : Int} {M0 : Mem} (kk : ∀ (H : Heap) (locs : List Loc), HI g s H locs M0 → W p l e R s m args below meth c H locs cells slots Q (F0 m pc ls (.int (iI z) :: rest))) : ∀ (v : Option Value) (M : Mem) (H : Heap) (locs : List Loc), pI z M0 v M → HI g s H locs M → W p l e R s m args below meth c H locs cells slots Q (F0 m pc ls (v.toList ++ rest)) := by
  rintro _ _ H locs ⟨rfl, rfl⟩ hI
  exact kk H locs hI
theorem k_V {M0 : Mem} (kk : ∀ (H : Heap) (locs : List Loc), HI g s H locs M0 → W p l e R s m args below meth c H locs cells slots Q (F0 m pc ls rest)) : ∀ (v : Option Value) (M : Mem) (H : Heap) (locs : List Loc), pV M0 v M → HI g s H locs M → W p l e R s m args below meth c H locs cells slots Q (F0 m pc ls (v.toList ++ rest)) := by
  rintro _ _ H locs ⟨rfl, rfl⟩ hI
  exact kk H locs hI
theorem k_R {a : Nat} {M0 : Mem} (kk : ∀ (H : Heap) (locs : List Loc), HI g s H locs M0 → W p l e R s m args below meth c H locs cells slots Q (F0 m pc ls (.ref a :: rest))) : ∀ (v : Option Value) (M : Mem) (H : Heap) (locs : List Loc), pR a M0 v M → HI g s H locs M → W p l e R s m args below meth c H locs cells slots Q (F0 m pc ls (v.toList ++ rest)) := by
  rintro _ _ H locs ⟨rfl, rfl⟩ hI
  exact kk H locs hI
theorem k_E {Z : Int → Mem → Prop} (kk : ∀ (z : Int) (M : Mem) (H : Heap) (locs : List Loc), Z z M → HI g s H locs M → W p l e R s m args below meth c H locs cells slots Q (F0 m pc ls (.int (iI z) :: rest))) : ∀ (v : Option Value) (M : Mem) (H : Heap) (locs : List Loc), pE Z v M → HI g s H locs M → W p l e R s m args below meth c H locs cells slots Q (F0 m pc ls (v.toList ++ rest)) := by
  rintro _ M H locs ⟨z, rfl, hz⟩ hI
  exact kk z M H locs hz hI
theorem k_X {Z : Mem → Prop} (kk : ∀ (M : Mem) (H : Heap) (locs : List Loc), Z M → HI g s H locs M → W p l e R s m args below meth c H locs cells slots Q (F0 m pc ls rest)) : ∀ (v : Option Value) (M : Mem) (H : Heap) (locs : List Loc), pX Z v M → HI g s H locs M → W p l e R s m args below meth c H locs cells slots Q (F0 m pc ls (v.toList ++ rest)) := by
  rintro _ M H locs ⟨rfl, hz⟩ hI
  exact kk M H locs hz hI
theorem k_L {z : Int} {M0 : Mem} (kk : ∀ (H : Heap) (locs : List Loc), HI g s H locs M0 → W p l e R s m args below meth c H locs cells slots Q (F0 m pc ls (.long (iL z) :: rest))) : ∀ (v : Option Value) (M : Mem) (H : Heap) (locs : List Loc), pL z M0 v M → HI g s H locs M → W p l e R s m args below meth c H locs cells slots Q (F0 m pc ls (v.toList ++ rest)) := by
  rintro _ _ H locs ⟨rfl, rfl⟩ hI
  exact kk H locs hI
end ROWS
/-- a contract, out of a walk of the method's body -/
theorem Ctr.mk {l : Launch} {g : GT} {y : MethodName} {ws ws' : List Cond} {rm : Room} {as : List Value} {M : Mem} {post : Option Value → Mem → Prop} {cc : ByteArray} {maxL : Nat} {ret : Option FieldType} {lv : List (Nat × Value)}
    (hy : plainName y.cls = true) (hw : ws = Cond.code y cc maxL ret :: ws') (hn : (lg_sl as).length ≤ maxL) (hlv : lv_args 0 as = lv)
    (body : ∀ (p : Program) (e : Env) (s : State) (m : MethodId) (below : List Frame) (meth : Method) (c : Code), CallFix p m c cc maxL s as.toArray ws y.cls → meth.sig.returnType = ret → meth.locks = false → HI g s s.heap [] M → ∀ ls : Array Slot, lv_has ls maxL lv →
      W p l e rm s m as.toArray below meth c s.heap [] 0 0 (MQ below (QV g post) as.toArray s 0 0 (AA g)) (F0 m 0 ls [])) : Ctr l g y ws rm as M post := by
  refine Met.ofW (cc := cc) (maxL := maxL) (ret := ret) hy hw ?_
  intro p e s m args below meth c s₁ B hml hv
  obtain ⟨rfl, hK, hP, hD, hB, hN, hS⟩ := hv
  have hl := lv_entry as (n := maxL) hn
  rw [lg_entry_eq]
  rw [hlv] at hl
  exact body p e s m below meth c ⟨B.exec, B.bytes, hml, findClass_of_methodNamed B.named, atoms_spec (ws := ws) B.pre⟩ B.returns B.notSynchronized ⟨hK, hP, hD, va_S.rf, hB, hN, hS⟩ _ hl
end
section
/-! rows of BITS.to-paste and NUMBERS.to-paste -/
theorem s_l : ∀ n, n < 32 → ((nI n &&& 31).toBitVec.smod 32).toNat = n := by decide +kernel
theorem nx_and (a b : Nat) : nI a &&& nI b = nI (a &&& b) := by
  apply Int32.toBitVec_inj.1
  show BitVec.ofNat 32 a &&& BitVec.ofNat 32 b = BitVec.ofNat 32 (a &&& b)
  apply BitVec.eq_of_getLsbD_eq
  intro i hi
  simp [hi]
theorem nx_xor (a b : Nat) : nI a ^^^ nI b = nI (a ^^^ b) := by
  apply Int32.toBitVec_inj.1
  show BitVec.ofNat 32 a ^^^ BitVec.ofNat 32 b = BitVec.ofNat 32 (a ^^^ b)
  apply BitVec.eq_of_getLsbD_eq
  intro i hi
  simp [hi]
theorem wb_tb (n : Nat) : (lN n).toBitVec = BitVec.ofNat 64 n := rfl
theorem wb_inj {a b : Int64} (h : a.toBitVec = b.toBitVec) : a = b := Int64.toBitVec_inj.mp h
theorem wb_tn {n : Nat} (h : n < 2 ^ 64) : (lN n).toBitVec.toNat = n := by rw [wb_tb, BitVec.toNat_ofNat, Nat.mod_eq_of_lt h]
theorem wb_cu : ∀ k, k < 64 → ((nI k).toInt64.toUInt64 &&& Int64.toUInt64 63) = UInt64.ofNat k := by decide +kernel
theorem wb_mod (n : Nat) : lN n = lN (n % 2 ^ 64) := wb_inj (by rw [wb_tb, wb_tb]; apply BitVec.eq_of_toNat_eq; rw [BitVec.toNat_ofNat, BitVec.toNat_ofNat, Nat.mod_mod])
theorem wb_shr {n k : Nat} (hn : n < 2 ^ 64) (hk : k < 64) : ((lN n).toUInt64 >>> ((nI k).toInt64.toUInt64 &&& Int64.toUInt64 63)).toInt64 = lN (n / 2 ^ k) := by
  rw [wb_cu k hk]
  apply wb_inj
  apply BitVec.eq_of_toNat_eq
  show ((lN n).toUInt64 >>> UInt64.ofNat k).toNat = (BitVec.ofNat 64 _).toNat
  have h1 : (UInt64.ofNat k).toNat = k := by
    show (BitVec.ofNat 64 k).toNat = k
    rw [BitVec.toNat_ofNat, Nat.mod_eq_of_lt (by omega)]
  have h2 : (lN n).toUInt64.toNat = n := wb_tn hn
  rw [UInt64.toNat_shiftRight, h1, h2, Nat.mod_eq_of_lt hk, Nat.shiftRight_eq_div_pow, BitVec.toNat_ofNat, Nat.mod_eq_of_lt (Nat.lt_of_le_of_lt (Nat.div_le_self _ _) hn)]
theorem fa_or (a b : Nat) : nI a ||| nI b = nI (a ||| b) := by
  apply Int32.toBitVec_inj.1
  show BitVec.ofNat 32 a ||| BitVec.ofNat 32 b = BitVec.ofNat 32 (a ||| b)
  apply BitVec.eq_of_getLsbD_eq
  intro i hi
  simp [hi]
/-! more numbers -/
theorem iI_pos {z : Int} (h : 0 ≤ z) : iI z = nI z.toNat := by
  rw [← iI_nI, Int.toNat_of_nonneg h]
theorem iL_T {z : Int} (h : -9223372036854775808 ≤ z ∧ z < 9223372036854775808) : (iL z).toInt = z := Int64.toInt_ofInt_of_le h.1 h.2
theorem iL_add (a b : Int) : iL a + iL b = iL (a + b) := (Int64.ofInt_add a b).symm
theorem iL_mul (a b : Int) : iL a * iL b = iL (a * b) := (Int64.ofInt_mul a b).symm
theorem iL_of (x : Int64) : iL x.toInt = x := Int64.ofInt_toInt x
theorem iL_lN (n : Nat) : iL (n : Int) = lN n := by
  apply Int64.toInt_inj.mp
  show (Int64.ofInt (n : Int)).toInt = (Int64.ofNat n).toInt
  simp
theorem iL_mod (z : Int) : iL z = lN (z % 18446744073709551616).toNat := by
  have h : 0 ≤ z % 18446744073709551616 := Int.emod_nonneg _ (by decide)
  rw [← iL_lN, Int.toNat_of_nonneg h]
  apply Int64.toInt_inj.mp
  show (Int64.ofInt z).toInt = (Int64.ofInt (z % 18446744073709551616)).toInt
  rw [Int64.toInt_ofInt, Int64.toInt_ofInt]
  show z.bmod 18446744073709551616 = (z % 18446744073709551616).bmod 18446744073709551616
  exact (Int.emod_bmod _ _).symm
theorem iI_l {z : Int} (h : -2147483648 ≤ z ∧ z < 2147483648) : (iI z).toInt64 = iL z := by
  apply Int64.toInt_inj.mp
  rw [Int32.toInt_toInt64, iI_T h, iL_T (by omega)]
theorem iL_i (z : Int) : (iL z).toInt32 = iI z := Int64.toInt32_ofInt
def xorI (a b : Int) : Int := ((a.toNat ^^^ b.toNat : Nat) : Int)
def orI (a b : Int) : Int := ((a.toNat ||| b.toNat : Nat) : Int)
def andI (a b : Int) : Int := ((a.toNat &&& b.toNat : Nat) : Int)
def shlI (a b : Int) : Int := a * 2 ^ b.toNat
def shrI (a b : Int) : Int := a / 2 ^ b.toNat
theorem iI_xor {a b : Int} (ha : 0 ≤ a ∧ 0 ≤ b) : iI a ^^^ iI b = iI (xorI a b) := by
  rw [iI_pos ha.1, iI_pos ha.2, nx_xor, xorI, iI_nI]
theorem iI_and {a b : Int} (ha : 0 ≤ a ∧ 0 ≤ b) : iI a &&& iI b = iI (andI a b) := by
  rw [iI_pos ha.1, iI_pos ha.2, nx_and, andI, iI_nI]
theorem iI_or {a b : Int} (ha : 0 ≤ a ∧ 0 ≤ b) : iI a ||| iI b = iI (orI a b) := by
  rw [iI_pos ha.1, iI_pos ha.2, fa_or, orI, iI_nI]
theorem iI_shl1 {b : Int} (h : 0 ≤ b ∧ b < 31) : iI 1 <<< (iI b &&& 31) = iI (shlI 1 b) := by
  rw [iI_pos h.1, show iI 1 = nI 1 from rfl, pk_shlN _ b.toNat (s_l _ (by omega)) ?_, shlI]
  · rw [← iI_nI]; congr 1
  · have h1 : 2 ^ b.toNat ≤ 2 ^ 30 := Nat.pow_le_pow_right (by decide) (by omega)
    omega
theorem iI_shr {a b : Int} (h : 0 ≤ a ∧ a < 2147483648) (h2 : 0 ≤ b ∧ b < 31) : iI a >>> (iI b &&& 31) = iI (shrI a b) := by
  rw [iI_pos h.1, iI_pos h2.1, pk_shrN (by omega) _ b.toNat (s_l _ (by omega)), shrI, ← iI_nI]
  congr 1
  rw [Int.natCast_ediv, Int.toNat_of_nonneg h.1]
  simp
theorem z_b (P : Prop) [Decidable P] : narrow .boolean (.int (iI (bI P))) = .int (iI (bI P)) := by
  unfold bI
  split <;> decide +kernel
section ROWS2
variable {p : Program} {l : Launch} {e : Env} {R : Room} {s : State} {m : MethodId} {args : Array Value} {below : List Frame} {meth : Method} {c : Code} {H : Heap} {locs : List Loc} {cells slots : Nat} {Q : State → Prop}
variable {cc : ByteArray} {pc : Nat} {ls : Array Slot} {rest st0 : List Value} {nL : Nat} {Ts : List Cond} {own : String} {g : GT} {M : Mem}
theorem r_nm {z : Int} (k : ∀ x : Int, x = z → W p l e R s m args below meth c H locs cells slots Q (F0 m pc ls (.int (iI x) :: rest))) : W p l e R s m args below meth c H locs cells slots Q (F0 m pc ls (.int (iI z) :: rest)) := k z rfl
theorem r_nmC {z : Nat} (k : ∀ x : Nat, x = z → W p l e R s m args below meth c H locs cells slots Q (F0 m pc ls (.ref (gA g x) :: rest))) : W p l e R s m args below meth c H locs cells slots Q (F0 m pc ls (.ref (gA g z) :: rest)) := k z rfl
theorem r_ixor (hexec : p.tables.exec = Jvm.exec) (hb : c.code = cc) {x y : Int} (h : 0 ≤ x ∧ 0 ≤ y) (hdg : decode cc pc = .ok (.ixor, 1)) (k : W p l e R s m args below meth c H locs cells slots Q (F0 m (pc + 1) ls (.int (iI (xorI x y)) :: rest))) : W p l e R s m args below meth c H locs cells slots Q (F0 m pc ls (.int (iI y) :: .int (iI x) :: rest)) := lv_ixor hexec hb hdg (by rw [iI_xor h]; exact k)
theorem r_iand (hexec : p.tables.exec = Jvm.exec) (hb : c.code = cc) {x y : Int} (h : 0 ≤ x ∧ 0 ≤ y) (hdg : decode cc pc = .ok (.iand, 1)) (k : W p l e R s m args below meth c H locs cells slots Q (F0 m (pc + 1) ls (.int (iI (andI x y)) :: rest))) : W p l e R s m args below meth c H locs cells slots Q (F0 m pc ls (.int (iI y) :: .int (iI x) :: rest)) := lv_iand hexec hb hdg (by rw [iI_and h]; exact k)
theorem r_ior (hexec : p.tables.exec = Jvm.exec) (hb : c.code = cc) {x y : Int} (h : 0 ≤ x ∧ 0 ≤ y) (hdg : decode cc pc = .ok (.ior, 1)) (k : W p l e R s m args below meth c H locs cells slots Q (F0 m (pc + 1) ls (.int (iI (orI x y)) :: rest))) : W p l e R s m args below meth c H locs cells slots Q (F0 m pc ls (.int (iI y) :: .int (iI x) :: rest)) := lv_ior hexec hb hdg (by rw [iI_or h]; exact k)
theorem r_ishl (hexec : p.tables.exec = Jvm.exec) (hb : c.code = cc) {y : Int} (h : 0 ≤ y ∧ y < 31) (hdg : decode cc pc = .ok (.ishl, 1)) (k : W p l e R s m args below meth c H locs cells slots Q (F0 m (pc + 1) ls (.int (iI (shlI 1 y)) :: rest))) : W p l e R s m args below meth c H locs cells slots Q (F0 m pc ls (.int (iI y) :: .int (iI 1) :: rest)) := lv_ishl hexec hb hdg (by rw [iI_shl1 h]; exact k)
theorem r_ishr (hexec : p.tables.exec = Jvm.exec) (hb : c.code = cc) {x y : Int} (h : (0 ≤ x ∧ x < 2147483648) ∧ (0 ≤ y ∧ y < 31)) (hdg : decode cc pc = .ok (.ishr, 1)) (k : W p l e R s m args below meth c H locs cells slots Q (F0 m (pc + 1) ls (.int (iI (shrI x y)) :: rest))) : W p l e R s m args below meth c H locs cells slots Q (F0 m pc ls (.int (iI y) :: .int (iI x) :: rest)) := lv_ishr hexec hb hdg (by rw [iI_shr h.1 h.2]; exact k)
theorem r_ladd (hexec : p.tables.exec = Jvm.exec) (hb : c.code = cc) {x y : Int} (hdg : decode cc pc = .ok (.ladd, 1)) (k : W p l e R s m args below meth c H locs cells slots Q (F0 m (pc + 1) ls (.long (iL (x + y)) :: rest))) : W p l e R s m args below meth c H locs cells slots Q (F0 m pc ls (.long (iL y) :: .long (iL x) :: rest)) := lv_ladd hexec hb hdg (by rw [iL_add]; exact k)
theorem r_lmul (hexec : p.tables.exec = Jvm.exec) (hb : c.code = cc) {x y : Int} (hdg : decode cc pc = .ok (.lmul, 1)) (k : W p l e R s m args below meth c H locs cells slots Q (F0 m (pc + 1) ls (.long (iL (x * y)) :: rest))) : W p l e R s m args below meth c H locs cells slots Q (F0 m pc ls (.long (iL y) :: .long (iL x) :: rest)) := lv_lmul hexec hb hdg (by rw [iL_mul]; exact k)
theorem r_i2l (hexec : p.tables.exec = Jvm.exec) (hb : c.code = cc) {x : Int} (h : -2147483648 ≤ x ∧ x < 2147483648) (hdg : decode cc pc = .ok (.i2l, 1)) (k : W p l e R s m args below meth c H locs cells slots Q (F0 m (pc + 1) ls (.long (iL x) :: rest))) : W p l e R s m args below meth c H locs cells slots Q (F0 m pc ls (.int (iI x) :: rest)) := lv_i2l hexec hb hdg (iI_l h) k
theorem r_l2i (hexec : p.tables.exec = Jvm.exec) (hb : c.code = cc) {x : Int} (hdg : decode cc pc = .ok (.l2i, 1)) (k : W p l e R s m args below meth c H locs cells slots Q (F0 m (pc + 1) ls (.int (iI x) :: rest))) : W p l e R s m args below meth c H locs cells slots Q (F0 m pc ls (.long (iL x) :: rest)) := lv_l2i hexec hb hdg (iL_i x) k
theorem r_lushr33 (hexec : p.tables.exec = Jvm.exec) (hb : c.code = cc) {x : Int} (hdg : decode cc pc = .ok (.lushr, 1)) (k : W p l e R s m args below meth c H locs cells slots Q (F0 m (pc + 1) ls (.long (iL (x % 18446744073709551616 / 8589934592)) :: rest))) : W p l e R s m args below meth c H locs cells slots Q (F0 m pc ls (.int (iI 33) :: .long (iL x) :: rest)) := by
  refine lv_lushr hexec hb hdg ?_ k
  rw [iL_mod, show iI 33 = nI 33 from rfl, wb_shr (by omega) (by decide), ← iL_lN]
  congr 1
  have h : 0 ≤ x % 18446744073709551616 := Int.emod_nonneg _ (by decide)
  rw [Int.natCast_ediv, Int.toNat_of_nonneg h]
  rfl
theorem r_lrem20 (hexec : p.tables.exec = Jvm.exec) (hb : c.code = cc) {x : Int} (h : 0 ≤ x ∧ x < 9223372036854775808) (hdg : decode cc pc = .ok (.lrem, 1)) (k : W p l e R s m args below meth c H locs cells slots Q (F0 m (pc + 1) ls (.long (iL (x % 20)) :: rest))) : W p l e R s m args below meth c H locs cells slots Q (F0 m pc ls (.long (iL 20) :: .long (iL x) :: rest)) := by
  refine lv_lrem hexec hb hdg (by decide +kernel) ?_
  have e1 : iL x = lN x.toNat := by rw [← iL_lN, Int.toNat_of_nonneg h.1]
  have e2 : iL x - iL x / iL 20 * iL 20 = iL (x % 20) := by
    rw [e1, show iL 20 = lN 20 from rfl, pk_lRem (by omega) (by decide) (by decide), ← iL_lN]
    congr 1
    omega
  rw [e2]
  exact k
theorem r_ldc2 (C : CallFix p m c cc nL s args Ts own) {n : Int} {v : Int64} {index : Nat} (hv : v = iL n) (hconst : Cond.constantLong own index v ∈ Ts) (hdg : decode cc pc = .ok (.ldc2_w index, 3)) (k : W p l e R s m args below meth c H locs cells slots Q (F0 m (pc + 3) ls (.long (iL n) :: rest))) : W p l e R s m args below meth c H locs cells slots Q (F0 m pc ls rest) := by
  subst hv
  exact W.ldc2 C.1 C.2.1 C.2.2.2.1 (C.2.2.2.2 _ hconst) rfl hdg k
theorem lc_lt {x y : Int} (hx : -9223372036854775808 ≤ x ∧ x < 9223372036854775808) (hy : -9223372036854775808 ≤ y ∧ y < 9223372036854775808) : (lg_cmp (iL x) (iL y) < 0) ↔ x < y := by rw [lg_cmp_lt, Int64.lt_iff_toInt_lt, iL_T hx, iL_T hy]
theorem lc_gt {x y : Int} (hx : -9223372036854775808 ≤ x ∧ x < 9223372036854775808) (hy : -9223372036854775808 ≤ y ∧ y < 9223372036854775808) : (0 < lg_cmp (iL x) (iL y)) ↔ y < x := by rw [lg_cmp_gt, Int64.lt_iff_toInt_lt, iL_T hx, iL_T hy]
theorem r_lc_lt (hexec : p.tables.exec = Jvm.exec) (hb : c.code = cc) {x y : Int} {off : Int} {tgt : Nat} (hx : -9223372036854775808 ≤ x ∧ x < 9223372036854775808) (hy : -9223372036854775808 ≤ y ∧ y < 9223372036854775808) (hdg : decode cc pc = .ok (.lcmp, 1)) (hdg2 : decode cc (pc + 1) = .ok (.ifCond .lt off, 3)) (ht : ((pc + 1 : Nat) : Int) + off = (tgt : Int)) (kt : x < y → W p l e R s m args below meth c H locs cells slots Q (F0 m tgt ls rest)) (kf : ¬ x < y → W p l e R s m args below meth c H locs cells slots Q (F0 m (pc + 1 + 3) ls rest)) : W p l e R s m args below meth c H locs cells slots Q (F0 m pc ls (.long (iL y) :: .long (iL x) :: rest)) :=
  W.lcmp hexec hb hdg (lv_if_lt hexec hb hdg2 ht (fun h => kt ((lc_lt hx hy).mp h)) (fun h => kf (fun q => h ((lc_lt hx hy).mpr q))))
theorem r_lc_gt (hexec : p.tables.exec = Jvm.exec) (hb : c.code = cc) {x y : Int} {off : Int} {tgt : Nat} (hx : -9223372036854775808 ≤ x ∧ x < 9223372036854775808) (hy : -9223372036854775808 ≤ y ∧ y < 9223372036854775808) (hdg : decode cc pc = .ok (.lcmp, 1)) (hdg2 : decode cc (pc + 1) = .ok (.ifCond .gt off, 3)) (ht : ((pc + 1 : Nat) : Int) + off = (tgt : Int)) (kt : y < x → W p l e R s m args below meth c H locs cells slots Q (F0 m tgt ls rest)) (kf : ¬ y < x → W p l e R s m args below meth c H locs cells slots Q (F0 m (pc + 1 + 3) ls rest)) : W p l e R s m args below meth c H locs cells slots Q (F0 m pc ls (.long (iL y) :: .long (iL x) :: rest)) :=
  W.lcmp hexec hb hdg (lv_if_gt hexec hb hdg2 ht (fun h => kt ((lc_gt hx hy).mp h)) (fun h => kf (fun q => h ((lc_gt hx hy).mpr q))))
theorem r_tsw (hexec : p.tables.exec = Jvm.exec) (hb : c.code = cc) {dflt lo hi : Int} {offs : Array Int} {len : Nat} {x : Int} (hx : -2147483648 ≤ x ∧ x < 2147483648) (hdg : decode cc pc = .ok (.tableswitch dflt lo hi offs, len)) (ho : (offs.size : Int) = hi - lo + 1 ∧ 0 ≤ (pc : Int) + dflt ∧ ∀ o ∈ offs.toList, 0 ≤ (pc : Int) + o)
    (kin : ∀ j : Nat, j < offs.size → x = lo + (j : Int) → W p l e R s m args below meth c H locs cells slots Q (F0 m ((pc : Int) + offs.toList.getD j 0).toNat ls rest)) (kout : (x < lo ∨ hi < x) → W p l e R s m args below meth c H locs cells slots Q (F0 m ((pc : Int) + dflt).toNat ls rest)) : W p l e R s m args below meth c H locs cells slots Q (F0 m pc ls (.int (iI x) :: rest)) := by
  obtain ⟨h1, h2, h3⟩ := ho
  have hX : (iI x).toInt = x := iI_T hx
  by_cases h : x < lo ∨ hi < x
  · exact lv_tableOut hexec hb hdg (by rw [hX]; exact h) (by omega) (kout h)
  · have hj : (x - lo).toNat < offs.size := by omega
    have hg : offs[(x - lo).toNat]? = some offs[(x - lo).toNat] := Array.getElem?_eq_getElem hj
    have hl : (offs.toList.getD (x - lo).toNat 0) = offs[(x - lo).toNat] := by simp [List.getD, hg]
    have h4 := h3 offs[(x - lo).toNat] (by simp)
    refine lv_tableIn hexec hb hdg (by rw [hX]; omega) (by rw [hX]; omega) (off := offs[(x - lo).toNat]) (tgt := ((pc : Int) + offs[(x - lo).toNat]).toNat) (by rw [hX]; exact hg) (by omega) ?_
    have := kin (x - lo).toNat hj (by omega)
    rw [hl] at this
    exact this
theorem r_gets (C : CallFix p m c cc nL s args Ts own) (hI : HI g s H locs M) (k : Nat) (hk : k < 4) {index : Nat} (hlink : Cond.fieldLink own index RX5 (stN k) "[I" ∈ Ts) (hdg : decode cc pc = .ok (.getstatic index, 3)) (kk : W p l e R s m args below meth c H locs cells slots Q (F0 m (pc + 3) ls (.ref (gT g k) :: rest))) : W p l e R s m args below meth c H locs cells slots Q (F0 m pc ls rest) :=
  va_gets (A := AA g) (ref := RX5) C.1 C.2.1 (hI.2.2.2.2.2.2 k hk).1 hI.2.2.2.1 C.2.2.2.1 (C.2.2.2.2 _ hlink) (fun x h => h) hdg kk
theorem r_tld (C : CallFix p m c cc nL s args Ts own) (hI : HI g s H locs M) (k : Nat) (hk : k < 4) {z : Int} (hz : 0 ≤ z ∧ z < 3) (hdg : decode cc pc = .ok (.iaload, 1)) (kk : W p l e R s m args below meth c H locs cells slots Q (F0 m (pc + 1) ls (.int (iI (stV k z)) :: rest))) : W p l e R s m args below meth c H locs cells slots Q (F0 m pc ls (.int (iI z) :: .ref (gT g k) :: rest)) :=
  va_ti (A := AA g) C.1 C.2.1 (hI.2.2.2.2.2.2 k hk).2 hI.2.2.2.1 (iI_in (n := 3) hz (by decide)) (v := .int (iI (stV k z))) (by rw [iI_N (by omega), Int.toNat_of_nonneg hz.1]) hdg kk
theorem r_tlen (C : CallFix p m c cc nL s args Ts own) (hI : HI g s H locs M) (k : Nat) (hk : k < 4) (hdg : decode cc pc = .ok (.arraylength, 1)) (kk : W p l e R s m args below meth c H locs cells slots Q (F0 m (pc + 1) ls (.int (iI 3) :: rest))) : W p l e R s m args below meth c H locs cells slots Q (F0 m pc ls (.ref (gT g k) :: rest)) :=
  va_tlen (A := AA g) C.1 C.2.1 (hI.2.2.2.2.2.2 k hk).2 hI.2.2.2.1 (v := iI 3) rfl hdg kk
theorem r_zst (C : CallFix p m c cc nL s args Ts own) (hI : HI g s H locs M) (i : Nat) (hi : i < 86) {n : Nat} (he : ∀ r, cel g i r = gZ g n r) {z v : Int} (hz : 0 ≤ z ∧ z < n) (hn : n < 2147483648) (hv : vp_nar .boolean (iI v) = iI v) (_hv2 : vp_nar .boolean (iI v) = iI v) (hdg : decode cc pc = .ok (.bastore, 1))
    (kk : ∀ (H : Heap) (locs : List Loc), HI g s H locs (mset M i z v) → W p l e R s m args below meth c H locs cells slots Q (F0 m (pc + 1) ls rest)) : W p l e R s m args below meth c H locs cells slots Q (F0 m pc ls (.int (iI v) :: .int (iI z) :: .ref (gA g i) :: rest)) := by
  refine va_zast (D := gD g) (cl := vwCl) (ws := big g M) (A := AA g) C.1 C.2.1 hI.1 hI.2.1 hI.2.2.1 hI.2.2.2.1 i 1 (big_at hi (he _)) rfl (iI_in hz hn) hdg (fun H1 locs1 hP hD hS => ?_)
  have e : (big g M).set i (gA g i, .inl (gC g 1, n, .inl (upd (fun k : Nat => iI (M i (k : Int))) (iI z).toNatClampNeg (vp_nar .boolean (iI v))))) = big g (mset M i z v) := by
    rw [hv, upd_rw1 (by omega)]
    exact big_set hi (he _)
  rw [e] at hP hD
  exact kk H1 locs1 ⟨hI.1, hP, hD, hS, hI.2.2.2.2⟩
theorem r_aret (C : CallFix p m c cc nL s args Ts own) {rt : FieldType} (hr : meth.sig.returnType = some rt) (hlk : meth.locks = false) (hI : HI g s H locs M) (hrt : rt = .object RX2) {post : Option Value → Mem → Prop} {a : Nat} (hp : post (some (.ref a)) M) (hdg : decode cc pc = .ok (.areturn, 1)) : W p l e R s m args below meth c H locs cells slots (MQ below (QV g post) args s cells slots (AA g)) (F0 m pc ls [.ref a]) :=
  W.aret C.1 C.2.1 hr (Or.inl ⟨_, hrt⟩) (Or.inr ⟨_, rfl⟩) (fun t ht _ => QV.of hI hp ht) hI.2.2.2.1.2.2 hdg hlk
theorem r_nret (C : CallFix p m c cc nL s args Ts own) {rt : FieldType} (hr : meth.sig.returnType = some rt) (hlk : meth.locks = false) (hI : HI g s H locs M) (hrt : rt = .object RX2) {post : Option Value → Mem → Prop} (hp : post (some .null) M) (hdg : decode cc pc = .ok (.areturn, 1)) : W p l e R s m args below meth c H locs cells slots (MQ below (QV g post) args s cells slots (AA g)) (F0 m pc ls [.null]) :=
  W.aret C.1 C.2.1 hr (Or.inl ⟨_, hrt⟩) (Or.inl rfl) (fun t ht _ => QV.of hI hp ht) hI.2.2.2.1.2.2 hdg hlk
theorem k_N {M0 : Mem} (kk : ∀ (H : Heap) (locs : List Loc), HI g s H locs M0 → W p l e R s m args below meth c H locs cells slots Q (F0 m pc ls (.null :: rest))) : ∀ (v : Option Value) (M : Mem) (H : Heap) (locs : List Loc), pN M0 v M → HI g s H locs M → W p l e R s m args below meth c H locs cells slots Q (F0 m pc ls (v.toList ++ rest)) := by
  rintro _ _ H locs ⟨rfl, rfl⟩ hI
  exact kk H locs hI
end ROWS2
end
section
/-! THE WORDS of what is kept -/
def fstO (k : Int) : Int := if 100 ≤ k then k / 100 else if 10 ≤ k then k / 10 else k
def behO (k d r : Int) : Int := if r ≤ 1 then d else if r = 2 then k % 10 * 10 + d else k % 100 * 10 + d
def figs (k : Int) : Int := if k ≤ 0 then 0 else if k < 10 then 1 else if k < 100 then 2 else 3
theorem figs_0 {k : Int} (h : k ≤ 0) : figs k = 0 := by simp [figs, h]
theorem figs_S {k : Int} (h : 0 < k) (h2 : k < 1000) : figs k = figs (k / 10) + 1 := by unfold figs; repeat (split); all_goals omega
def gFst (a b w : Int) : Int := if b ≤ a then w - a else 0
def gOth (a b w : Int) : Int := if a < b then w - b else 0
set_option maxHeartbeats 4000000 in
set_option maxRecDepth 100000 in
theorem c_X6_at (l : Launch) (g : GT) (M : Mem) (i : Nat) (k : Int) (n : Nat) (hi : i < 86) (he : ∀ r, cel g i r = gI g n r) (hn : n < 2147483648) (hk : 0 ≤ k ∧ k < n) : Ctr l g yX6_at wsX6_at ({ frames := 0, cells := 0, slots := 0, locals := 0 } : Room) [.ref (gA g i), .int (iI k)] M (pI (M i k) M) := by
  refine Ctr.mk (cc := cX6_at) (maxL := 2) (ret := some .int) (lv := [(0, .ref (gA g i)), (1, .int (iI k))]) (by decide) rfl (Nat.le_of_ble_eq_true rfl) rfl ?_
  intro p e s m below meth c C hr hlk hI ls hl
  have C : CallFix p m c cX6_at 2 s ([.ref (gA g i), .int (iI k)] : List Value).toArray wsX6_at RX6 := C
  have hx := C.1
  have hb := C.2.1
  have hts := C.2.2.2.2
  refine lv_iload_n hx hb dX6_at_0 rfl (lv_at hl 1 rfl) ?_
  refine r_if_lt hx hb (tgt := 16) (by omega) dX6_at_1 (by decide) (fun c_1 => ?_) (fun c_1 => ?_)
  · refine lv_iconst (v := iI 0) hx hb dX6_at_16 rfl ?_
    refine r_iret C hr hlk hI ?_ dX6_at_17
    exact ⟨congrArg (fun q => some (Value.int (iI q))) (show 0 = M i k from by first | rfl | omega), rfl⟩
  · refine lv_iload_n hx hb dX6_at_4 rfl (lv_at hl 1 rfl) ?_
    refine lv_aload_n hx hb dX6_at_5 rfl (lv_at hl 0 rfl) ?_
    refine r_alen C hI i hi (he _) dX6_at_6 ?_
    refine r_icmp_ge hx hb (tgt := 16) (by omega) (by omega) dX6_at_7 (by decide) (fun c_2 => ?_) (fun c_2 => ?_)
    · refine lv_iconst (v := iI 0) hx hb dX6_at_16 rfl ?_
      refine r_iret C hr hlk hI ?_ dX6_at_17
      exact ⟨congrArg (fun q => some (Value.int (iI q))) (show 0 = M i k from by first | rfl | omega), rfl⟩
    · refine lv_aload_n hx hb dX6_at_10 rfl (lv_at hl 0 rfl) ?_
      refine lv_iload_n hx hb dX6_at_11 rfl (lv_at hl 1 rfl) ?_
      refine r_ald C hI i hi (he _) (by omega) (by omega) dX6_at_12 ?_
      refine lv_goto (tgt := 17) hx hb dX6_at_13 (by decide) ?_
      refine r_iret C hr hlk hI ?_ dX6_at_17
      exact ⟨congrArg (fun q => some (Value.int (iI q))) (show M i k = M i k from by first | rfl | omega), rfl⟩
set_option maxHeartbeats 4000000 in
set_option maxRecDepth 100000 in
theorem c_X6_atS (l : Launch) (g : GT) (M : Mem) (i : Nat) (k : Int) (hi : i < 4) (hk : 0 ≤ k ∧ k < 3) : Ctr l g yX6_at wsX6_at ({ frames := 0, cells := 0, slots := 0, locals := 0 } : Room) [.ref (gT g i), .int (iI k)] M (pI (stV i k) M) := by
  refine Ctr.mk (cc := cX6_at) (maxL := 2) (ret := some .int) (lv := [(0, .ref (gT g i)), (1, .int (iI k))]) (by decide) rfl (Nat.le_of_ble_eq_true rfl) rfl ?_
  intro p e s m below meth c C hr hlk hI ls hl
  have C : CallFix p m c cX6_at 2 s ([.ref (gT g i), .int (iI k)] : List Value).toArray wsX6_at RX6 := C
  have hx := C.1
  have hb := C.2.1
  have hts := C.2.2.2.2
  refine lv_iload_n hx hb dX6_at_0 rfl (lv_at hl 1 rfl) ?_
  refine r_if_lt hx hb (tgt := 16) (by omega) dX6_at_1 (by decide) (fun c_1 => ?_) (fun c_1 => ?_)
  · refine lv_iconst (v := iI 0) hx hb dX6_at_16 rfl ?_
    refine r_iret C hr hlk hI ?_ dX6_at_17
    exact ⟨congrArg (fun q => some (Value.int (iI q))) (show 0 = stV i k from by first | rfl | omega), rfl⟩
  · refine lv_iload_n hx hb dX6_at_4 rfl (lv_at hl 1 rfl) ?_
    refine lv_aload_n hx hb dX6_at_5 rfl (lv_at hl 0 rfl) ?_
    refine r_tlen C hI i hi dX6_at_6 ?_
    refine r_icmp_ge hx hb (tgt := 16) (by omega) (by decide) dX6_at_7 (by decide) (fun c_2 => ?_) (fun c_2 => ?_)
    · refine lv_iconst (v := iI 0) hx hb dX6_at_16 rfl ?_
      refine r_iret C hr hlk hI ?_ dX6_at_17
      exact ⟨congrArg (fun q => some (Value.int (iI q))) (show 0 = stV i k from by first | rfl | omega), rfl⟩
    · refine lv_aload_n hx hb dX6_at_10 rfl (lv_at hl 0 rfl) ?_
      refine lv_iload_n hx hb dX6_at_11 rfl (lv_at hl 1 rfl) ?_
      refine r_tld C hI i hi (by omega) dX6_at_12 ?_
      refine lv_goto (tgt := 17) hx hb dX6_at_13 (by decide) ?_
      refine r_iret C hr hlk hI ?_ dX6_at_17
      exact ⟨congrArg (fun q => some (Value.int (iI q))) (show stV i k = stV i k from by first | rfl | omega), rfl⟩
set_option maxHeartbeats 4000000 in
set_option maxRecDepth 100000 in
theorem c_X6_put (l : Launch) (g : GT) (M : Mem) (i : Nat) (k : Int) (v : Int) (n : Nat) (hi : i < 86) (he : ∀ r, cel g i r = gI g n r) (hn : n < 2147483648) (hk : 0 ≤ k ∧ k < n) : Ctr l g yX6_put wsX6_put ({ frames := 0, cells := 0, slots := 0, locals := 0 } : Room) [.ref (gA g i), .int (iI k), .int (iI v)] M (pV (mset M i k v)) := by
  refine Ctr.mk (cc := cX6_put) (maxL := 3) (ret := none) (lv := [(0, .ref (gA g i)), (1, .int (iI k)), (2, .int (iI v))]) (by decide) rfl (Nat.le_of_ble_eq_true rfl) rfl ?_
  intro p e s m below meth c C hr hlk hI ls hl
  have C : CallFix p m c cX6_put 3 s ([.ref (gA g i), .int (iI k), .int (iI v)] : List Value).toArray wsX6_put RX6 := C
  have hx := C.1
  have hb := C.2.1
  have hts := C.2.2.2.2
  refine lv_iload_n hx hb dX6_put_0 rfl (lv_at hl 1 rfl) ?_
  refine r_if_lt hx hb (tgt := 14) (by omega) dX6_put_1 (by decide) (fun c_1 => ?_) (fun c_1 => ?_)
  · refine r_vret C hr hlk hI ?_ dX6_put_14
    exact ⟨rfl, (show M = mset M i k v from by first | rfl | (exfalso; omega))⟩
  · refine lv_iload_n hx hb dX6_put_4 rfl (lv_at hl 1 rfl) ?_
    refine lv_aload_n hx hb dX6_put_5 rfl (lv_at hl 0 rfl) ?_
    refine r_alen C hI i hi (he _) dX6_put_6 ?_
    refine r_icmp_ge hx hb (tgt := 14) (by omega) (by omega) dX6_put_7 (by decide) (fun c_2 => ?_) (fun c_2 => ?_)
    · refine r_vret C hr hlk hI ?_ dX6_put_14
      exact ⟨rfl, (show M = mset M i k v from by first | rfl | (exfalso; omega))⟩
    · refine lv_aload_n hx hb dX6_put_10 rfl (lv_at hl 0 rfl) ?_
      refine lv_iload_n hx hb dX6_put_11 rfl (lv_at hl 1 rfl) ?_
      refine lv_iload_n hx hb dX6_put_12 rfl (lv_at hl 2 rfl) ?_
      refine r_ast C hI i hi he (by omega) (by omega) dX6_put_13 (fun H locs hI => ?_)
      refine r_vret C hr hlk hI ?_ dX6_put_14
      exact ⟨rfl, (show mset M i k v = mset M i k v from by first | rfl | (exfalso; omega))⟩
set_option maxHeartbeats 4000000 in
set_option maxRecDepth 100000 in
theorem c_X6_within (l : Launch) (g : GT) (M : Mem) (v : Int) (a : Int) (b : Int) (hv : -2147483648 ≤ v ∧ v < 2147483648) (ha : -2147483648 ≤ a ∧ a < 2147483648) (hb : -2147483648 ≤ b ∧ b < 2147483648) : Ctr l g yX6_within wsX6_within ({ frames := 0, cells := 0, slots := 0, locals := 0 } : Room) [.int (iI v), .int (iI a), .int (iI b)] M (pI (bI (a ≤ v ∧ v ≤ b)) M) := by
  refine Ctr.mk (cc := cX6_within) (maxL := 3) (ret := some .boolean) (lv := [(0, .int (iI v)), (1, .int (iI a)), (2, .int (iI b))]) (by decide) rfl (Nat.le_of_ble_eq_true rfl) rfl ?_
  intro p e s m below meth c C hr hlk hI ls hl
  have C : CallFix p m c cX6_within 3 s ([.int (iI v), .int (iI a), .int (iI b)] : List Value).toArray wsX6_within RX6 := C
  have hx := C.1
  have hb := C.2.1
  have hts := C.2.2.2.2
  refine lv_iload_n hx hb dX6_within_0 rfl (lv_at hl 0 rfl) ?_
  refine lv_iload_n hx hb dX6_within_1 rfl (lv_at hl 1 rfl) ?_
  refine r_icmp_lt hx hb (tgt := 14) (by omega) (by omega) dX6_within_2 (by decide) (fun c_1 => ?_) (fun c_1 => ?_)
  · refine lv_iconst (v := iI 0) hx hb dX6_within_14 rfl ?_
    refine r_zret C hr hlk hI (by decide +kernel) ?_ dX6_within_15
    exact ⟨congrArg (fun q => some (Value.int (iI q))) (bI_f (by first | assumption | omega)).symm, rfl⟩
  · refine lv_iload_n hx hb dX6_within_5 rfl (lv_at hl 0 rfl) ?_
    refine lv_iload_n hx hb dX6_within_6 rfl (lv_at hl 2 rfl) ?_
    refine r_icmp_gt hx hb (tgt := 14) (by omega) (by omega) dX6_within_7 (by decide) (fun c_2 => ?_) (fun c_2 => ?_)
    · refine lv_iconst (v := iI 0) hx hb dX6_within_14 rfl ?_
      refine r_zret C hr hlk hI (by decide +kernel) ?_ dX6_within_15
      exact ⟨congrArg (fun q => some (Value.int (iI q))) (bI_f (by first | assumption | omega)).symm, rfl⟩
    · refine lv_iconst (v := iI 1) hx hb dX6_within_10 rfl ?_
      refine lv_goto (tgt := 15) hx hb dX6_within_11 (by decide) ?_
      refine r_zret C hr hlk hI (by decide +kernel) ?_ dX6_within_15
      exact ⟨congrArg (fun q => some (Value.int (iI q))) (bI_t (by first | assumption | omega)).symm, rfl⟩
set_option maxHeartbeats 4000000 in
set_option maxRecDepth 100000 in
theorem c_X6_isChoice (l : Launch) (g : GT) (M : Mem) (v : Int) (hv : -2147483648 ≤ v ∧ v < 2147483648) : Ctr l g yX6_isChoice wsX6_isChoice ({ frames := 1, cells := 0, slots := 0, locals := 22 } : Room) [.int (iI v)] M (pI (bI (0 ≤ v ∧ v ≤ 1)) M) := by
  refine Ctr.mk (cc := cX6_isChoice) (maxL := 1) (ret := some .boolean) (lv := [(0, .int (iI v))]) (by decide) rfl (Nat.le_of_ble_eq_true rfl) rfl ?_
  intro p e s m below meth c C hr hlk hI ls hl
  have C : CallFix p m c cX6_isChoice 1 s ([.int (iI v)] : List Value).toArray wsX6_isChoice RX6 := C
  have hx := C.1
  have hb := C.2.1
  have hts := C.2.2.2.2
  refine lv_iload_n hx hb dX6_isChoice_0 rfl (lv_at hl 0 rfl) ?_
  refine lv_iconst (v := iI 0) hx hb dX6_isChoice_1 rfl ?_
  refine lv_iconst (v := iI 1) hx hb dX6_isChoice_2 rfl ?_
  refine r_is C hI (As := [.int (iI v), .int (iI 0), .int (iI 1)]) (rest := []) (c_X6_within l g M v 0 1 (by omega) (by decide) (by decide)) (va_cwS 3 hts gX6_isChoice_X6_within rfl rfl rfl (by decide +kernel) ⟨Nat.le_of_ble_eq_true rfl, Nat.le_of_ble_eq_true rfl⟩) rfl hl.1 rfl (Nat.le_of_ble_eq_true rfl) dX6_isChoice_3 ⟨Nat.zero_le _, Nat.zero_le _⟩ (k_I (fun H locs hI => ?_))
  refine r_zret C hr hlk hI (z_b _) ?_ dX6_isChoice_6
  exact ⟨congrArg (fun q => some (Value.int (iI q))) (show bI (0 ≤ v ∧ v ≤ 1) = bI (0 ≤ v ∧ v ≤ 1) from by first | rfl | omega), rfl⟩
set_option maxHeartbeats 4000000 in
set_option maxRecDepth 100000 in
theorem c_X6_lastOf (l : Launch) (g : GT) (M : Mem) (k : Int) (hk : 0 ≤ k ∧ k < 2147483648) : Ctr l g yX6_lastOf wsX6_lastOf ({ frames := 0, cells := 0, slots := 0, locals := 0 } : Room) [.int (iI k)] M (pI (k % 10) M) := by
  refine Ctr.mk (cc := cX6_lastOf) (maxL := 1) (ret := some .int) (lv := [(0, .int (iI k))]) (by decide) rfl (Nat.le_of_ble_eq_true rfl) rfl ?_
  intro p e s m below meth c C hr hlk hI ls hl
  have C : CallFix p m c cX6_lastOf 1 s ([.int (iI k)] : List Value).toArray wsX6_lastOf RX6 := C
  have hx := C.1
  have hb := C.2.1
  have hts := C.2.2.2.2
  refine lv_iload_n hx hb dX6_lastOf_0 rfl (lv_at hl 0 rfl) ?_
  refine lv_bipush (v := iI 10) hx hb dX6_lastOf_1 (by decide +kernel) ?_
  refine r_irem hx hb (by omega) (by decide) dX6_lastOf_3 ?_
  refine r_iret C hr hlk hI ?_ dX6_lastOf_4
  exact ⟨congrArg (fun q => some (Value.int (iI q))) (show k % 10 = k % 10 from by first | rfl | omega), rfl⟩
set_option maxHeartbeats 4000000 in
set_option maxRecDepth 100000 in
theorem c_X6_withoutLast (l : Launch) (g : GT) (M : Mem) (k : Int) (hk : 0 ≤ k ∧ k < 2147483648) : Ctr l g yX6_withoutLast wsX6_withoutLast ({ frames := 0, cells := 0, slots := 0, locals := 0 } : Room) [.int (iI k)] M (pI (k / 10) M) := by
  refine Ctr.mk (cc := cX6_withoutLast) (maxL := 1) (ret := some .int) (lv := [(0, .int (iI k))]) (by decide) rfl (Nat.le_of_ble_eq_true rfl) rfl ?_
  intro p e s m below meth c C hr hlk hI ls hl
  have C : CallFix p m c cX6_withoutLast 1 s ([.int (iI k)] : List Value).toArray wsX6_withoutLast RX6 := C
  have hx := C.1
  have hb := C.2.1
  have hts := C.2.2.2.2
  refine lv_iload_n hx hb dX6_withoutLast_0 rfl (lv_at hl 0 rfl) ?_
  refine lv_bipush (v := iI 10) hx hb dX6_withoutLast_1 (by decide +kernel) ?_
  refine r_idiv hx hb (by omega) (by decide) dX6_withoutLast_3 ?_
  refine r_iret C hr hlk hI ?_ dX6_withoutLast_4
  exact ⟨congrArg (fun q => some (Value.int (iI q))) (show k / 10 = k / 10 from by first | rfl | omega), rfl⟩
set_option maxHeartbeats 4000000 in
set_option maxRecDepth 100000 in
theorem c_X6_firstOf (l : Launch) (g : GT) (M : Mem) (k : Int) (hk : 0 ≤ k ∧ k < 2147483648) : Ctr l g yX6_firstOf wsX6_firstOf ({ frames := 0, cells := 0, slots := 0, locals := 0 } : Room) [.int (iI k)] M (pI (fstO k) M) := by
  refine Ctr.mk (cc := cX6_firstOf) (maxL := 1) (ret := some .int) (lv := [(0, .int (iI k))]) (by decide) rfl (Nat.le_of_ble_eq_true rfl) rfl ?_
  intro p e s m below meth c C hr hlk hI ls hl
  have C : CallFix p m c cX6_firstOf 1 s ([.int (iI k)] : List Value).toArray wsX6_firstOf RX6 := C
  have hx := C.1
  have hb := C.2.1
  have hts := C.2.2.2.2
  refine lv_iload_n hx hb dX6_firstOf_0 rfl (lv_at hl 0 rfl) ?_
  refine lv_bipush (v := iI 100) hx hb dX6_firstOf_1 (by decide +kernel) ?_
  refine r_icmp_lt hx hb (tgt := 11) (by omega) (by decide) dX6_firstOf_3 (by decide) (fun c_1 => ?_) (fun c_1 => ?_)
  · refine lv_iload_n hx hb dX6_firstOf_11 rfl (lv_at hl 0 rfl) ?_
    refine lv_bipush (v := iI 10) hx hb dX6_firstOf_12 (by decide +kernel) ?_
    refine r_icmp_lt hx hb (tgt := 24) (by omega) (by decide) dX6_firstOf_14 (by decide) (fun c_2 => ?_) (fun c_2 => ?_)
    · refine lv_iload_n hx hb dX6_firstOf_24 rfl (lv_at hl 0 rfl) ?_
      refine r_iret C hr hlk hI ?_ dX6_firstOf_25
      exact ⟨congrArg (fun q => some (Value.int (iI q))) (show k = fstO k from by unfold fstO; repeat (split); all_goals omega), rfl⟩
    · refine lv_iload_n hx hb dX6_firstOf_17 rfl (lv_at hl 0 rfl) ?_
      refine lv_bipush (v := iI 10) hx hb dX6_firstOf_18 (by decide +kernel) ?_
      refine r_idiv hx hb (by omega) (by decide) dX6_firstOf_20 ?_
      refine lv_goto (tgt := 25) hx hb dX6_firstOf_21 (by decide) ?_
      refine r_iret C hr hlk hI ?_ dX6_firstOf_25
      exact ⟨congrArg (fun q => some (Value.int (iI q))) (show k / 10 = fstO k from by unfold fstO; repeat (split); all_goals omega), rfl⟩
  · refine lv_iload_n hx hb dX6_firstOf_6 rfl (lv_at hl 0 rfl) ?_
    refine lv_bipush (v := iI 100) hx hb dX6_firstOf_7 (by decide +kernel) ?_
    refine r_idiv hx hb (by omega) (by decide) dX6_firstOf_9 ?_
    refine r_iret C hr hlk hI ?_ dX6_firstOf_10
    exact ⟨congrArg (fun q => some (Value.int (iI q))) (show k / 100 = fstO k from by unfold fstO; repeat (split); all_goals omega), rfl⟩
set_option maxHeartbeats 4000000 in
set_option maxRecDepth 100000 in
theorem c_X6_withBehind (l : Launch) (g : GT) (M : Mem) (k : Int) (d : Int) (r : Int) (hk : 0 ≤ k ∧ k < 2147483648) (hr : -2147483648 ≤ r ∧ r < 2147483648) : Ctr l g yX6_withBehind wsX6_withBehind ({ frames := 0, cells := 0, slots := 0, locals := 0 } : Room) [.int (iI k), .int (iI d), .int (iI r)] M (pI (behO k d r) M) := by
  refine Ctr.mk (cc := cX6_withBehind) (maxL := 3) (ret := some .int) (lv := [(0, .int (iI k)), (1, .int (iI d)), (2, .int (iI r))]) (by decide) rfl (Nat.le_of_ble_eq_true rfl) rfl ?_
  intro p e s m below meth c C hr hlk hI ls hl
  have C : CallFix p m c cX6_withBehind 3 s ([.int (iI k), .int (iI d), .int (iI r)] : List Value).toArray wsX6_withBehind RX6 := C
  have hx := C.1
  have hb := C.2.1
  have hts := C.2.2.2.2
  refine lv_iload_n hx hb dX6_withBehind_0 rfl (lv_at hl 2 rfl) ?_
  refine lv_iconst (v := iI 1) hx hb dX6_withBehind_1 rfl ?_
  refine r_icmp_gt hx hb (tgt := 7) (by omega) (by decide) dX6_withBehind_2 (by decide) (fun c_1 => ?_) (fun c_1 => ?_)
  · refine lv_iload_n hx hb dX6_withBehind_7 rfl (lv_at hl 2 rfl) ?_
    refine lv_iconst (v := iI 2) hx hb dX6_withBehind_8 rfl ?_
    refine r_icmp_ne hx hb (tgt := 24) (by omega) (by decide) dX6_withBehind_9 (by decide) (fun c_2 => ?_) (fun c_2 => ?_)
    · refine lv_iload_n hx hb dX6_withBehind_24 rfl (lv_at hl 0 rfl) ?_
      refine lv_bipush (v := iI 100) hx hb dX6_withBehind_25 (by decide +kernel) ?_
      refine r_irem hx hb (by omega) (by decide) dX6_withBehind_27 ?_
      refine lv_bipush (v := iI 10) hx hb dX6_withBehind_28 (by decide +kernel) ?_
      refine r_imul hx hb dX6_withBehind_30 ?_
      refine lv_iload_n hx hb dX6_withBehind_31 rfl (lv_at hl 1 rfl) ?_
      refine r_iadd hx hb dX6_withBehind_32 ?_
      refine r_iret C hr hlk hI ?_ dX6_withBehind_33
      exact ⟨congrArg (fun q => some (Value.int (iI q))) (show ((k % 100) * 10) + d = behO k d r from by unfold behO; repeat (split); all_goals omega), rfl⟩
    · refine lv_iload_n hx hb dX6_withBehind_12 rfl (lv_at hl 0 rfl) ?_
      refine lv_bipush (v := iI 10) hx hb dX6_withBehind_13 (by decide +kernel) ?_
      refine r_irem hx hb (by omega) (by decide) dX6_withBehind_15 ?_
      refine lv_bipush (v := iI 10) hx hb dX6_withBehind_16 (by decide +kernel) ?_
      refine r_imul hx hb dX6_withBehind_18 ?_
      refine lv_iload_n hx hb dX6_withBehind_19 rfl (lv_at hl 1 rfl) ?_
      refine r_iadd hx hb dX6_withBehind_20 ?_
      refine lv_goto (tgt := 33) hx hb dX6_withBehind_21 (by decide) ?_
      refine r_iret C hr hlk hI ?_ dX6_withBehind_33
      exact ⟨congrArg (fun q => some (Value.int (iI q))) (show ((k % 10) * 10) + d = behO k d r from by unfold behO; repeat (split); all_goals omega), rfl⟩
  · refine lv_iload_n hx hb dX6_withBehind_5 rfl (lv_at hl 1 rfl) ?_
    refine r_iret C hr hlk hI ?_ dX6_withBehind_6
    exact ⟨congrArg (fun q => some (Value.int (iI q))) (show d = behO k d r from by unfold behO; repeat (split); all_goals omega), rfl⟩
set_option maxHeartbeats 4000000 in
set_option maxRecDepth 100000 in
theorem c_X6_gainOfFirst (l : Launch) (g : GT) (M : Mem) (a : Int) (b : Int) (w : Int) (ha : -2147483648 ≤ a ∧ a < 2147483648) (hb : -2147483648 ≤ b ∧ b < 2147483648) : Ctr l g yX6_gainOfFirst wsX6_gainOfFirst ({ frames := 0, cells := 0, slots := 0, locals := 0 } : Room) [.int (iI a), .int (iI b), .int (iI w)] M (pI (gFst a b w) M) := by
  refine Ctr.mk (cc := cX6_gainOfFirst) (maxL := 3) (ret := some .int) (lv := [(0, .int (iI a)), (1, .int (iI b)), (2, .int (iI w))]) (by decide) rfl (Nat.le_of_ble_eq_true rfl) rfl ?_
  intro p e s m below meth c C hr hlk hI ls hl
  have C : CallFix p m c cX6_gainOfFirst 3 s ([.int (iI a), .int (iI b), .int (iI w)] : List Value).toArray wsX6_gainOfFirst RX6 := C
  have hx := C.1
  have hb := C.2.1
  have hts := C.2.2.2.2
  refine lv_iload_n hx hb dX6_gainOfFirst_0 rfl (lv_at hl 0 rfl) ?_
  refine lv_iload_n hx hb dX6_gainOfFirst_1 rfl (lv_at hl 1 rfl) ?_
  refine r_icmp_lt hx hb (tgt := 11) (by omega) (by omega) dX6_gainOfFirst_2 (by decide) (fun c_1 => ?_) (fun c_1 => ?_)
  · refine lv_iconst (v := iI 0) hx hb dX6_gainOfFirst_11 rfl ?_
    refine r_iret C hr hlk hI ?_ dX6_gainOfFirst_12
    exact ⟨congrArg (fun q => some (Value.int (iI q))) (show 0 = gFst a b w from by unfold gFst; split; all_goals omega), rfl⟩
  · refine lv_iload_n hx hb dX6_gainOfFirst_5 rfl (lv_at hl 2 rfl) ?_
    refine lv_iload_n hx hb dX6_gainOfFirst_6 rfl (lv_at hl 0 rfl) ?_
    refine r_isub hx hb dX6_gainOfFirst_7 ?_
    refine lv_goto (tgt := 12) hx hb dX6_gainOfFirst_8 (by decide) ?_
    refine r_iret C hr hlk hI ?_ dX6_gainOfFirst_12
    exact ⟨congrArg (fun q => some (Value.int (iI q))) (show w - a = gFst a b w from by unfold gFst; split; all_goals omega), rfl⟩
set_option maxHeartbeats 4000000 in
set_option maxRecDepth 100000 in
theorem c_X6_gainOfOther (l : Launch) (g : GT) (M : Mem) (a : Int) (b : Int) (w : Int) (ha : -2147483648 ≤ a ∧ a < 2147483648) (hb : -2147483648 ≤ b ∧ b < 2147483648) : Ctr l g yX6_gainOfOther wsX6_gainOfOther ({ frames := 0, cells := 0, slots := 0, locals := 0 } : Room) [.int (iI a), .int (iI b), .int (iI w)] M (pI (gOth a b w) M) := by
  refine Ctr.mk (cc := cX6_gainOfOther) (maxL := 3) (ret := some .int) (lv := [(0, .int (iI a)), (1, .int (iI b)), (2, .int (iI w))]) (by decide) rfl (Nat.le_of_ble_eq_true rfl) rfl ?_
  intro p e s m below meth c C hr hlk hI ls hl
  have C : CallFix p m c cX6_gainOfOther 3 s ([.int (iI a), .int (iI b), .int (iI w)] : List Value).toArray wsX6_gainOfOther RX6 := C
  have hx := C.1
  have hb := C.2.1
  have hts := C.2.2.2.2
  refine lv_iload_n hx hb dX6_gainOfOther_0 rfl (lv_at hl 1 rfl) ?_
  refine lv_iload_n hx hb dX6_gainOfOther_1 rfl (lv_at hl 0 rfl) ?_
  refine r_icmp_le hx hb (tgt := 11) (by omega) (by omega) dX6_gainOfOther_2 (by decide) (fun c_1 => ?_) (fun c_1 => ?_)
  · refine lv_iconst (v := iI 0) hx hb dX6_gainOfOther_11 rfl ?_
    refine r_iret C hr hlk hI ?_ dX6_gainOfOther_12
    exact ⟨congrArg (fun q => some (Value.int (iI q))) (show 0 = gOth a b w from by unfold gOth; split; all_goals omega), rfl⟩
  · refine lv_iload_n hx hb dX6_gainOfOther_5 rfl (lv_at hl 2 rfl) ?_
    refine lv_iload_n hx hb dX6_gainOfOther_6 rfl (lv_at hl 1 rfl) ?_
    refine r_isub hx hb dX6_gainOfOther_7 ?_
    refine lv_goto (tgt := 12) hx hb dX6_gainOfOther_8 (by decide) ?_
    refine r_iret C hr hlk hI ?_ dX6_gainOfOther_12
    exact ⟨congrArg (fun q => some (Value.int (iI q))) (show w - b = gOth a b w from by unfold gOth; split; all_goals omega), rfl⟩
set_option maxHeartbeats 4000000 in
set_option maxRecDepth 100000 in
theorem c_X6_figuresIn (l : Launch) (g : GT) (M : Mem) (k : Int) (hk : 0 ≤ k ∧ k < 1000) : Ctr l g yX6_figuresIn wsX6_figuresIn ({ frames := 0, cells := 0, slots := 0, locals := 0 } : Room) [.int (iI k)] M (pI (figs k) M) := by
  refine Ctr.mk (cc := cX6_figuresIn) (maxL := 3) (ret := some .int) (lv := [(0, .int (iI k))]) (by decide) rfl (Nat.le_of_ble_eq_true rfl) rfl ?_
  intro p e s m below meth c C hr hlk hI ls hl
  have C : CallFix p m c cX6_figuresIn 3 s ([.int (iI k)] : List Value).toArray wsX6_figuresIn RX6 := C
  have hx := C.1
  have hb := C.2.1
  have hts := C.2.2.2.2
  refine lv_iconst (v := iI 0) hx hb dX6_figuresIn_0 rfl ?_
  refine lv_istore_n (lv' := [(1, .int (iI 0)), (0, .int (iI k))]) hx hb dX6_figuresIn_1 rfl hl (by decide) rfl (fun ls hl => ?_)
  refine lv_iload_n hx hb dX6_figuresIn_2 rfl (lv_at hl 1 rfl) ?_
  refine lv_istore_n (lv' := [(2, .int (iI k)), (1, .int (iI 0)), (0, .int (iI k))]) hx hb dX6_figuresIn_3 rfl hl (by decide) rfl (fun ls hl => ?_)
  have lp4 : ∀ (n4 : Nat) (x : Int) (n : Int), (0 ≤ x ∧ x < 1000) → (n + figs x = figs k) → x.toNat < n4 → ∀ (H : Heap) (locs : List Loc), HI g s H locs M → ∀ ls : Array Slot, lv_has ls 3 [(2, .int (iI x)), (1, .int (iI n)), (0, .int (iI k))] → W p l e ({ frames := 0, cells := 0, slots := 0, locals := 0 } : Room) s m ([.int (iI k)] : List Value).toArray below meth c H locs 0 0 (MQ below (QV g (pI (figs k) M)) ([.int (iI k)] : List Value).toArray s 0 0 (AA g)) (F0 m 4 ls []) := by
    intro n4
    induction n4 with
    | zero => intro x n h1 h2 hn4; exact absurd hn4 (Nat.not_lt_zero _)
    | succ n4 ih4 =>
      intro x n h1 h2 hn4 H locs hI ls hl
      refine lv_iload_n hx hb dX6_figuresIn_4 rfl (lv_at hl 0 rfl) ?_
      refine r_if_le hx hb (tgt := 19) (by omega) dX6_figuresIn_5 (by decide) (fun c_1 => ?_) (fun c_1 => ?_)
      · refine lv_iload_n hx hb dX6_figuresIn_19 rfl (lv_at hl 1 rfl) ?_
        refine r_iret C hr hlk hI ?_ dX6_figuresIn_20
        exact ⟨congrArg (fun q => some (Value.int (iI q))) (show n = figs k from by (have := figs_0 (k := x) (by omega); omega)), rfl⟩
      · refine lv_iinc (v := iI (n + 1)) (lv' := [(1, .int (iI (n + 1))), (2, .int (iI x)), (0, .int (iI k))]) hx hb dX6_figuresIn_8 hl (k := 1) rfl (iI_add _ _) (by decide) rfl (fun ls hl => ?_)
        refine lv_iload_n hx hb dX6_figuresIn_11 rfl (lv_at hl 1 rfl) ?_
        refine lv_bipush (v := iI 10) hx hb dX6_figuresIn_12 (by decide +kernel) ?_
        refine r_idiv hx hb (by omega) (by decide) dX6_figuresIn_14 ?_
        refine lv_istore_n (lv' := [(2, .int (iI (x / 10))), (1, .int (iI (n + 1))), (0, .int (iI k))]) hx hb dX6_figuresIn_15 rfl hl (by decide) rfl (fun ls hl => ?_)
        refine lv_goto (tgt := 4) hx hb dX6_figuresIn_16 (by decide) ?_
        exact ih4 (x / 10) (n + 1) (by omega) (by (have := figs_S (k := x) (by omega) (by omega); omega)) (by omega) _ _ hI ls (lv_sub hl [0, 1, 2] rfl)
  exact lp4 _ k 0 (by omega) (by omega) (Nat.lt_succ_self _) _ _ hI ls (lv_sub hl [0, 1, 2] rfl)
end
