section
-- ===== PART A: goes FIRST, ahead of the names: the tables' words, and 'selects' of the private methods out of them =====
/-- a private method of a class that the tables say can be made, by its rows of tables_1 -/
def lw_okq (q : MethodName × Nat) : Prop := (q.1.cls ≠ "java/lang/invoke/MethodHandle" ∧ q.1.cls ≠ "java/lang/invoke/VarHandle") ∧ Cond.instantiable q.1.cls q.2 ∈ tables_1 ∧ Cond.privateMethod q.1 ∈ tables_1 ∧ Cond.instanceMethod q.1 ∈ tables_1
theorem lw_p0 : lw_okq (⟨"ThreeModeJournal$Memory", "takeable", "()I"⟩, 6) := ⟨⟨by decide +kernel, by decide +kernel⟩, List.mem_of_getElem? (i := 93) (by decide +kernel), List.mem_of_getElem? (i := 161) (by decide +kernel), List.mem_of_getElem? (i := 162) (by decide +kernel)⟩
theorem lw_p1 : lw_okq (⟨"ThreeModeJournal$Memory", "blocksInUse", "()I"⟩, 6) := ⟨⟨by decide +kernel, by decide +kernel⟩, List.mem_of_getElem? (i := 93) (by decide +kernel), List.mem_of_getElem? (i := 165) (by decide +kernel), List.mem_of_getElem? (i := 166) (by decide +kernel)⟩
theorem lw_p2 : lw_okq (⟨"ThreeModeJournal", "commitIfLarge", "()Z"⟩, 4) := ⟨⟨by decide +kernel, by decide +kernel⟩, List.mem_of_getElem? (i := 11) (by decide +kernel), List.mem_of_getElem? (i := 176) (by decide +kernel), List.mem_of_getElem? (i := 177) (by decide +kernel)⟩
theorem lw_p3 : lw_okq (⟨"ThreeModeJournal", "commitRunning", "()I"⟩, 4) := ⟨⟨by decide +kernel, by decide +kernel⟩, List.mem_of_getElem? (i := 11) (by decide +kernel), List.mem_of_getElem? (i := 187) (by decide +kernel), List.mem_of_getElem? (i := 188) (by decide +kernel)⟩
theorem lw_p4 : lw_okq (⟨"ThreeModeJournal", "writeFirstDirty", "(I)Z"⟩, 4) := ⟨⟨by decide +kernel, by decide +kernel⟩, List.mem_of_getElem? (i := 11) (by decide +kernel), List.mem_of_getElem? (i := 191) (by decide +kernel), List.mem_of_getElem? (i := 192) (by decide +kernel)⟩
theorem lw_p5 : lw_okq (⟨"ThreeModeJournal", "writeDirtyHome", "(I)Z"⟩, 4) := ⟨⟨by decide +kernel, by decide +kernel⟩, List.mem_of_getElem? (i := 11) (by decide +kernel), List.mem_of_getElem? (i := 199) (by decide +kernel), List.mem_of_getElem? (i := 200) (by decide +kernel)⟩
theorem lw_p6 : lw_okq (⟨"ThreeModeJournal$Memory", "dirtyPlace", "(I)I"⟩, 6) := ⟨⟨by decide +kernel, by decide +kernel⟩, List.mem_of_getElem? (i := 93) (by decide +kernel), List.mem_of_getElem? (i := 221) (by decide +kernel), List.mem_of_getElem? (i := 222) (by decide +kernel)⟩
theorem lw_p7 : lw_okq (⟨"ThreeModeJournal$Log", "slot", "(I)I"⟩, 8) := ⟨⟨by decide +kernel, by decide +kernel⟩, List.mem_of_getElem? (i := 44) (by decide +kernel), List.mem_of_getElem? (i := 234) (by decide +kernel), List.mem_of_getElem? (i := 235) (by decide +kernel)⟩
theorem lw_p8 : lw_okq (⟨"ThreeModeJournal$Log", "unionBehind", "(I[I)I"⟩, 8) := ⟨⟨by decide +kernel, by decide +kernel⟩, List.mem_of_getElem? (i := 44) (by decide +kernel), List.mem_of_getElem? (i := 246) (by decide +kernel), List.mem_of_getElem? (i := 247) (by decide +kernel)⟩
theorem lw_p9 : lw_okq (⟨"ThreeModeJournal$Disk", "writeCopiesHome", "(II)Z"⟩, 3) := ⟨⟨by decide +kernel, by decide +kernel⟩, List.mem_of_getElem? (i := 19) (by decide +kernel), List.mem_of_getElem? (i := 250) (by decide +kernel), List.mem_of_getElem? (i := 251) (by decide +kernel)⟩
theorem lw_p10 : lw_okq (⟨"ThreeModeJournal$Disk", "dropOldest", "(I)Z"⟩, 3) := ⟨⟨by decide +kernel, by decide +kernel⟩, List.mem_of_getElem? (i := 19) (by decide +kernel), List.mem_of_getElem? (i := 264) (by decide +kernel), List.mem_of_getElem? (i := 265) (by decide +kernel)⟩
theorem lw_p11 : lw_okq (⟨"ThreeModeJournal", "growByOne", "(II)V"⟩, 4) := ⟨⟨by decide +kernel, by decide +kernel⟩, List.mem_of_getElem? (i := 11) (by decide +kernel), List.mem_of_getElem? (i := 287) (by decide +kernel), List.mem_of_getElem? (i := 288) (by decide +kernel)⟩
theorem lw_p12 : lw_okq (⟨"ThreeModeJournal", "addDataBlock", "(II)V"⟩, 4) := ⟨⟨by decide +kernel, by decide +kernel⟩, List.mem_of_getElem? (i := 11) (by decide +kernel), List.mem_of_getElem? (i := 291) (by decide +kernel), List.mem_of_getElem? (i := 292) (by decide +kernel)⟩
theorem lw_p13 : lw_okq (⟨"ThreeModeJournal$Memory", "clearWords", "(I)V"⟩, 6) := ⟨⟨by decide +kernel, by decide +kernel⟩, List.mem_of_getElem? (i := 93) (by decide +kernel), List.mem_of_getElem? (i := 308) (by decide +kernel), List.mem_of_getElem? (i := 309) (by decide +kernel)⟩
theorem lw_p14 : lw_okq (⟨"ThreeModeJournal", "setDataWord", "(III)V"⟩, 4) := ⟨⟨by decide +kernel, by decide +kernel⟩, List.mem_of_getElem? (i := 11) (by decide +kernel), List.mem_of_getElem? (i := 318) (by decide +kernel), List.mem_of_getElem? (i := 319) (by decide +kernel)⟩
theorem lw_p15 : lw_okq (⟨"ThreeModeJournal", "shorten", "(II)V"⟩, 4) := ⟨⟨by decide +kernel, by decide +kernel⟩, List.mem_of_getElem? (i := 11) (by decide +kernel), List.mem_of_getElem? (i := 337) (by decide +kernel), List.mem_of_getElem? (i := 338) (by decide +kernel)⟩
def lw_privs_1 : List (MethodName × Nat) := [(⟨"ThreeModeJournal$Memory", "takeable", "()I"⟩, 6), (⟨"ThreeModeJournal$Memory", "blocksInUse", "()I"⟩, 6), (⟨"ThreeModeJournal", "commitIfLarge", "()Z"⟩, 4), (⟨"ThreeModeJournal", "commitRunning", "()I"⟩, 4), (⟨"ThreeModeJournal", "writeFirstDirty", "(I)Z"⟩, 4), (⟨"ThreeModeJournal", "writeDirtyHome", "(I)Z"⟩, 4), (⟨"ThreeModeJournal$Memory", "dirtyPlace", "(I)I"⟩, 6), (⟨"ThreeModeJournal$Log", "slot", "(I)I"⟩, 8), (⟨"ThreeModeJournal$Log", "unionBehind", "(I[I)I"⟩, 8), (⟨"ThreeModeJournal$Disk", "writeCopiesHome", "(II)Z"⟩, 3), (⟨"ThreeModeJournal$Disk", "dropOldest", "(I)Z"⟩, 3), (⟨"ThreeModeJournal", "growByOne", "(II)V"⟩, 4), (⟨"ThreeModeJournal", "addDataBlock", "(II)V"⟩, 4), (⟨"ThreeModeJournal$Memory", "clearWords", "(I)V"⟩, 6), (⟨"ThreeModeJournal", "setDataWord", "(III)V"⟩, 4), (⟨"ThreeModeJournal", "shorten", "(II)V"⟩, 4)]
theorem lw_r1 : ∀ q ∈ lw_privs_1, lw_okq q := List.forall_mem_cons.mpr ⟨lw_p0, List.forall_mem_cons.mpr ⟨lw_p1, List.forall_mem_cons.mpr ⟨lw_p2, List.forall_mem_cons.mpr ⟨lw_p3, List.forall_mem_cons.mpr ⟨lw_p4, List.forall_mem_cons.mpr ⟨lw_p5, List.forall_mem_cons.mpr ⟨lw_p6, List.forall_mem_cons.mpr ⟨lw_p7, List.forall_mem_cons.mpr ⟨lw_p8, List.forall_mem_cons.mpr ⟨lw_p9, List.forall_mem_cons.mpr ⟨lw_p10, List.forall_mem_cons.mpr ⟨lw_p11, List.forall_mem_cons.mpr ⟨lw_p12, List.forall_mem_cons.mpr ⟨lw_p13, List.forall_mem_cons.mpr ⟨lw_p14, List.forall_mem_cons.mpr ⟨lw_p15, fun _ h => absurd h List.not_mem_nil⟩⟩⟩⟩⟩⟩⟩⟩⟩⟩⟩⟩⟩⟩⟩⟩
theorem lw_p16 : lw_okq (⟨"ThreeModeJournal", "freeIndex", "(I)V"⟩, 4) := ⟨⟨by decide +kernel, by decide +kernel⟩, List.mem_of_getElem? (i := 11) (by decide +kernel), List.mem_of_getElem? (i := 349) (by decide +kernel), List.mem_of_getElem? (i := 350) (by decide +kernel)⟩
theorem lw_p17 : lw_okq (⟨"ThreeModeJournal", "writeDirtyOfFile", "(I)Z"⟩, 4) := ⟨⟨by decide +kernel, by decide +kernel⟩, List.mem_of_getElem? (i := 11) (by decide +kernel), List.mem_of_getElem? (i := 387) (by decide +kernel), List.mem_of_getElem? (i := 388) (by decide +kernel)⟩
theorem lw_p18 : lw_okq (⟨"ThreeModeJournalModel", "opens", "()I"⟩, 17) := ⟨⟨by decide +kernel, by decide +kernel⟩, List.mem_of_getElem? (i := 468) (by decide +kernel), List.mem_of_getElem? (i := 534) (by decide +kernel), List.mem_of_getElem? (i := 535) (by decide +kernel)⟩
theorem lw_p19 : lw_okq (⟨"ThreeModeJournalModel", "open", "(I)Z"⟩, 17) := ⟨⟨by decide +kernel, by decide +kernel⟩, List.mem_of_getElem? (i := 468) (by decide +kernel), List.mem_of_getElem? (i := 538) (by decide +kernel), List.mem_of_getElem? (i := 539) (by decide +kernel)⟩
theorem lw_p20 : lw_okq (⟨"ThreeModeJournalModel", "used", "(I)Z"⟩, 17) := ⟨⟨by decide +kernel, by decide +kernel⟩, List.mem_of_getElem? (i := 468) (by decide +kernel), List.mem_of_getElem? (i := 542) (by decide +kernel), List.mem_of_getElem? (i := 543) (by decide +kernel)⟩
theorem lw_p21 : lw_okq (⟨"ThreeModeJournalModel", "ready", "()Z"⟩, 17) := ⟨⟨by decide +kernel, by decide +kernel⟩, List.mem_of_getElem? (i := 468) (by decide +kernel), List.mem_of_getElem? (i := 546) (by decide +kernel), List.mem_of_getElem? (i := 547) (by decide +kernel)⟩
theorem lw_p22 : lw_okq (⟨"ThreeModeJournalModel", "needs", "()I"⟩, 17) := ⟨⟨by decide +kernel, by decide +kernel⟩, List.mem_of_getElem? (i := 468) (by decide +kernel), List.mem_of_getElem? (i := 550) (by decide +kernel), List.mem_of_getElem? (i := 551) (by decide +kernel)⟩
theorem lw_p23 : lw_okq (⟨"ThreeModeJournalModel", "seal", "()I"⟩, 17) := ⟨⟨by decide +kernel, by decide +kernel⟩, List.mem_of_getElem? (i := 468) (by decide +kernel), List.mem_of_getElem? (i := 554) (by decide +kernel), List.mem_of_getElem? (i := 555) (by decide +kernel)⟩
theorem lw_p24 : lw_okq (⟨"ThreeModeJournalModel", "bring", "(I)Z"⟩, 17) := ⟨⟨by decide +kernel, by decide +kernel⟩, List.mem_of_getElem? (i := 468) (by decide +kernel), List.mem_of_getElem? (i := 558) (by decide +kernel), List.mem_of_getElem? (i := 559) (by decide +kernel)⟩
theorem lw_p25 : lw_okq (⟨"ThreeModeJournalModel", "spend", "()Z"⟩, 17) := ⟨⟨by decide +kernel, by decide +kernel⟩, List.mem_of_getElem? (i := 468) (by decide +kernel), List.mem_of_getElem? (i := 562) (by decide +kernel), List.mem_of_getElem? (i := 563) (by decide +kernel)⟩
theorem lw_p26 : lw_okq (⟨"ThreeModeJournalModel", "fail", "()V"⟩, 17) := ⟨⟨by decide +kernel, by decide +kernel⟩, List.mem_of_getElem? (i := 468) (by decide +kernel), List.mem_of_getElem? (i := 566) (by decide +kernel), List.mem_of_getElem? (i := 567) (by decide +kernel)⟩
theorem lw_p27 : lw_okq (⟨"ThreeModeJournalModel", "clean", "(I)V"⟩, 17) := ⟨⟨by decide +kernel, by decide +kernel⟩, List.mem_of_getElem? (i := 468) (by decide +kernel), List.mem_of_getElem? (i := 570) (by decide +kernel), List.mem_of_getElem? (i := 571) (by decide +kernel)⟩
theorem lw_p28 : lw_okq (⟨"ThreeModeJournalModel", "vacant", "()I"⟩, 17) := ⟨⟨by decide +kernel, by decide +kernel⟩, List.mem_of_getElem? (i := 468) (by decide +kernel), List.mem_of_getElem? (i := 574) (by decide +kernel), List.mem_of_getElem? (i := 575) (by decide +kernel)⟩
theorem lw_p29 : lw_okq (⟨"ThreeModeJournalModel", "retire", "(I)Z"⟩, 17) := ⟨⟨by decide +kernel, by decide +kernel⟩, List.mem_of_getElem? (i := 468) (by decide +kernel), List.mem_of_getElem? (i := 578) (by decide +kernel), List.mem_of_getElem? (i := 579) (by decide +kernel)⟩
theorem lw_p30 : lw_okq (⟨"ThreeModeJournalModel", "replay", "(IZ)Z"⟩, 17) := ⟨⟨by decide +kernel, by decide +kernel⟩, List.mem_of_getElem? (i := 468) (by decide +kernel), List.mem_of_getElem? (i := 582) (by decide +kernel), List.mem_of_getElem? (i := 583) (by decide +kernel)⟩
theorem lw_p31 : lw_okq (⟨"ThreeModeJournalModel", "later", "(IIZ)Z"⟩, 17) := ⟨⟨by decide +kernel, by decide +kernel⟩, List.mem_of_getElem? (i := 468) (by decide +kernel), List.mem_of_getElem? (i := 586) (by decide +kernel), List.mem_of_getElem? (i := 587) (by decide +kernel)⟩
def lw_privs_2 : List (MethodName × Nat) := [(⟨"ThreeModeJournal", "freeIndex", "(I)V"⟩, 4), (⟨"ThreeModeJournal", "writeDirtyOfFile", "(I)Z"⟩, 4), (⟨"ThreeModeJournalModel", "opens", "()I"⟩, 17), (⟨"ThreeModeJournalModel", "open", "(I)Z"⟩, 17), (⟨"ThreeModeJournalModel", "used", "(I)Z"⟩, 17), (⟨"ThreeModeJournalModel", "ready", "()Z"⟩, 17), (⟨"ThreeModeJournalModel", "needs", "()I"⟩, 17), (⟨"ThreeModeJournalModel", "seal", "()I"⟩, 17), (⟨"ThreeModeJournalModel", "bring", "(I)Z"⟩, 17), (⟨"ThreeModeJournalModel", "spend", "()Z"⟩, 17), (⟨"ThreeModeJournalModel", "fail", "()V"⟩, 17), (⟨"ThreeModeJournalModel", "clean", "(I)V"⟩, 17), (⟨"ThreeModeJournalModel", "vacant", "()I"⟩, 17), (⟨"ThreeModeJournalModel", "retire", "(I)Z"⟩, 17), (⟨"ThreeModeJournalModel", "replay", "(IZ)Z"⟩, 17), (⟨"ThreeModeJournalModel", "later", "(IIZ)Z"⟩, 17)]
theorem lw_r2 : ∀ q ∈ lw_privs_2, lw_okq q := List.forall_mem_cons.mpr ⟨lw_p16, List.forall_mem_cons.mpr ⟨lw_p17, List.forall_mem_cons.mpr ⟨lw_p18, List.forall_mem_cons.mpr ⟨lw_p19, List.forall_mem_cons.mpr ⟨lw_p20, List.forall_mem_cons.mpr ⟨lw_p21, List.forall_mem_cons.mpr ⟨lw_p22, List.forall_mem_cons.mpr ⟨lw_p23, List.forall_mem_cons.mpr ⟨lw_p24, List.forall_mem_cons.mpr ⟨lw_p25, List.forall_mem_cons.mpr ⟨lw_p26, List.forall_mem_cons.mpr ⟨lw_p27, List.forall_mem_cons.mpr ⟨lw_p28, List.forall_mem_cons.mpr ⟨lw_p29, List.forall_mem_cons.mpr ⟨lw_p30, List.forall_mem_cons.mpr ⟨lw_p31, fun _ h => absurd h List.not_mem_nil⟩⟩⟩⟩⟩⟩⟩⟩⟩⟩⟩⟩⟩⟩⟩⟩
theorem lw_p32 : lw_okq (⟨"ThreeModeJournalModel", "drop", "(I)V"⟩, 17) := ⟨⟨by decide +kernel, by decide +kernel⟩, List.mem_of_getElem? (i := 468) (by decide +kernel), List.mem_of_getElem? (i := 590) (by decide +kernel), List.mem_of_getElem? (i := 591) (by decide +kernel)⟩
theorem lw_p33 : lw_okq (⟨"ThreeModeJournalModel", "enter", "(I)V"⟩, 17) := ⟨⟨by decide +kernel, by decide +kernel⟩, List.mem_of_getElem? (i := 468) (by decide +kernel), List.mem_of_getElem? (i := 594) (by decide +kernel), List.mem_of_getElem? (i := 595) (by decide +kernel)⟩
theorem lw_p34 : lw_okq (⟨"ThreeModeJournalModel", "take", "(I)I"⟩, 17) := ⟨⟨by decide +kernel, by decide +kernel⟩, List.mem_of_getElem? (i := 468) (by decide +kernel), List.mem_of_getElem? (i := 598) (by decide +kernel), List.mem_of_getElem? (i := 599) (by decide +kernel)⟩
theorem lw_p35 : lw_okq (⟨"ThreeModeJournalModel", "remap", "()V"⟩, 17) := ⟨⟨by decide +kernel, by decide +kernel⟩, List.mem_of_getElem? (i := 468) (by decide +kernel), List.mem_of_getElem? (i := 602) (by decide +kernel), List.mem_of_getElem? (i := 603) (by decide +kernel)⟩
theorem lw_p36 : lw_okq (⟨"ThreeModeJournalModel", "cell", "(II)I"⟩, 17) := ⟨⟨by decide +kernel, by decide +kernel⟩, List.mem_of_getElem? (i := 468) (by decide +kernel), List.mem_of_getElem? (i := 606) (by decide +kernel), List.mem_of_getElem? (i := 607) (by decide +kernel)⟩
theorem lw_p37 : lw_okq (⟨"ThreeModeJournalModel", "isDirty", "(I)Z"⟩, 17) := ⟨⟨by decide +kernel, by decide +kernel⟩, List.mem_of_getElem? (i := 468) (by decide +kernel), List.mem_of_getElem? (i := 610) (by decide +kernel), List.mem_of_getElem? (i := 611) (by decide +kernel)⟩
theorem lw_p38 : lw_okq (⟨"ThreeModeJournalModel", "shorten", "(II)V"⟩, 17) := ⟨⟨by decide +kernel, by decide +kernel⟩, List.mem_of_getElem? (i := 468) (by decide +kernel), List.mem_of_getElem? (i := 618) (by decide +kernel), List.mem_of_getElem? (i := 619) (by decide +kernel)⟩
theorem lw_p39 : lw_okq (⟨"ThreeModeJournalModel", "release", "(IZ)V"⟩, 17) := ⟨⟨by decide +kernel, by decide +kernel⟩, List.mem_of_getElem? (i := 468) (by decide +kernel), List.mem_of_getElem? (i := 622) (by decide +kernel), List.mem_of_getElem? (i := 623) (by decide +kernel)⟩
theorem lw_p40 : lw_okq (⟨"ThreeModeJournalModel", "owns", "(II)Z"⟩, 17) := ⟨⟨by decide +kernel, by decide +kernel⟩, List.mem_of_getElem? (i := 468) (by decide +kernel), List.mem_of_getElem? (i := 646) (by decide +kernel), List.mem_of_getElem? (i := 647) (by decide +kernel)⟩
def lw_privs_3 : List (MethodName × Nat) := [(⟨"ThreeModeJournalModel", "drop", "(I)V"⟩, 17), (⟨"ThreeModeJournalModel", "enter", "(I)V"⟩, 17), (⟨"ThreeModeJournalModel", "take", "(I)I"⟩, 17), (⟨"ThreeModeJournalModel", "remap", "()V"⟩, 17), (⟨"ThreeModeJournalModel", "cell", "(II)I"⟩, 17), (⟨"ThreeModeJournalModel", "isDirty", "(I)Z"⟩, 17), (⟨"ThreeModeJournalModel", "shorten", "(II)V"⟩, 17), (⟨"ThreeModeJournalModel", "release", "(IZ)V"⟩, 17), (⟨"ThreeModeJournalModel", "owns", "(II)Z"⟩, 17)]
theorem lw_r3 : ∀ q ∈ lw_privs_3, lw_okq q := List.forall_mem_cons.mpr ⟨lw_p32, List.forall_mem_cons.mpr ⟨lw_p33, List.forall_mem_cons.mpr ⟨lw_p34, List.forall_mem_cons.mpr ⟨lw_p35, List.forall_mem_cons.mpr ⟨lw_p36, List.forall_mem_cons.mpr ⟨lw_p37, List.forall_mem_cons.mpr ⟨lw_p38, List.forall_mem_cons.mpr ⟨lw_p39, List.forall_mem_cons.mpr ⟨lw_p40, fun _ h => absurd h List.not_mem_nil⟩⟩⟩⟩⟩⟩⟩⟩⟩
def lw_privs : List (MethodName × Nat) := lw_privs_1 ++ (lw_privs_2 ++ (lw_privs_3))
def lw_tbl : List Cond := k2_sels lw_privs ++ tables_1
theorem lw_privs_ok : ∀ q ∈ lw_privs, lw_okq q := by
  show ∀ q ∈ lw_privs_1 ++ (lw_privs_2 ++ (lw_privs_3)), lw_okq q
  exact List.forall_mem_append.mpr ⟨lw_r1, List.forall_mem_append.mpr ⟨lw_r2, lw_r3⟩⟩
end
section
/-! The walker's base: a judgement tj_W that hides heap, locations and local array behind an abstract state, a row for each instruction. Serves any world cw : S → va_W. -/
abbrev tj_S : Type := Nat → Nat → Int32
def up2 (σ : tj_S) (a i : Nat) (v : Int32) : tj_S := fun b => if b = a then upd (σ a) i v else σ b
def st2 (σ : tj_S) (a : Nat) (g : Nat → Int32) : tj_S := fun b => if b = a then g else σ b
def inb (i : Int32) (n : Nat) : Bool := decide (0 ≤ i.toInt) && decide (i.toInt < (n : Int))
theorem inb_in {i : Int32} {n : Nat} (h : inb i n = true) : vp_in i n := by
  rw [vp_in_iff]
  simpa [inb] using h
def gd {α : Type} (b : Bool) (k : Option α) : Option α := if b = true then k else none
theorem gd_e {α : Type} {b : Bool} {k : Option α} {r : α} (h : gd b k = some r) : b = true ∧ k = some r := by
  unfold gd at h
  by_cases hb : b = true
  · rw [if_pos hb] at h; exact ⟨hb, h⟩
  · rw [if_neg hb] at h; cases h
def nm {α β : Type} (x : α) (k : α → β) : β := k x
def bd {α : Type} (o : Option (Int32 × tj_S)) (k : Int32 → tj_S → Option α) : Option α := match o with
  | some (r, s) => k r s
  | none => none
theorem bd_e {α : Type} {o : Option (Int32 × tj_S)} {k : Int32 → tj_S → Option α} {z : α} (h : bd o k = some z) : ∃ (r : Int32) (s : tj_S), o = some (r, s) ∧ k r s = some z := by
  rcases o with _ | ⟨r, s⟩
  · cases h
  · exact ⟨r, s, rfl, h⟩
def bv {α : Type} (o : Option tj_S) (k : tj_S → Option α) : Option α := match o with
  | some s => k s
  | none => none
theorem bv_e {α : Type} {o : Option tj_S} {k : tj_S → Option α} {z : α} (h : bv o k = some z) : ∃ (s : tj_S), o = some s ∧ k s = some z := by
  rcases o with _ | s
  · cases h
  · exact ⟨s, rfl, h⟩
theorem it_t {α : Type} {c : Prop} [Decidable c] {a b r : α} (hc : c) (h : (if c then a else b) = r) : a = r := by rw [if_pos hc] at h; exact h
theorem it_f {α : Type} {c : Prop} [Decidable c] {a b r : α} (hc : ¬ c) (h : (if c then a else b) = r) : b = r := by rw [if_neg hc] at h; exact h
def isb (v : Int32) : Bool := v == 0 || v == 1
theorem isb_n {v : Int32} (h : isb v = true) : narrow .boolean (.int v) = .int v := by
  have h1 : v = 0 ∨ v = 1 := by simpa [isb] using h
  rcases h1 with rfl | rfl <;> rfl
abbrev tj_G : Type := Program × Launch × Env × Room × State × MethodId × Array Value × List Frame × Method × Code × (Nat → Prop) × Heap × Nat × Nat × (State → Prop) × va_G × List vw_C × Nat
def tj_W {S : Type} (Γ : tj_G) (cw : S → va_W) (σ : S) (lv : List (Nat × Value)) (pc : Nat) (st : List Value) : Prop :=
  match Γ with
  | (p, l, e, R, s, m, args, below, meth, c, A, H0, cells, slots, Q, D, cls, nL) => ∀ (H : Heap) (locs : List Loc) (ls : Array Slot), va_P D cls (cw σ) H → va_D A (cw σ) → va_S A H0 H locs → lv_has ls nL lv → W p l e R s m args below meth c H locs cells slots Q (F0 m pc ls st)
def tj_C (Γ : tj_G) (l0 : Launch) (D0 : va_G) (cls0 : List vw_C) (nL0 : Nat) (cc : ByteArray) (own : String) (fr lo : Nat) (Ts : List Cond) (tys : List (ClassId × FieldType)) (NL : List Cond) : Prop :=
  match Γ with
  | (p, l, _, R, s, m, args, _, _, c, A, H0, cells, slots, _, D, cls, nL) => p.tables.exec = Jvm.exec ∧ c.code = cc ∧ c.maxLocals = nL ∧ s.vm.findClass own = some m.cls ∧ (∀ w ∈ Ts, w.before args s = true) ∧ va_K D cls tys s ∧ (∀ w ∈ NL, va_Nw w s) ∧ (∀ q, H0.size ≤ q → A q) ∧ fr ≤ R.frames ∧ lo ≤ R.locals ∧ cells ≤ R.cells ∧ slots ≤ R.slots ∧ l = l0 ∧ D = D0 ∧ cls = cls0 ∧ nL = nL0
section tjRows
variable {Γ : tj_G} {l0 : Launch} {D0 : va_G} {cls0 : List vw_C} {nL0 : Nat} {cc : ByteArray} {own : String} {fr lo : Nat} {Ts : List Cond} {tys : List (ClassId × FieldType)} {NL : List Cond}
variable {S : Type} {cw : S → va_W} {σ : S} {lv : List (Nat × Value)} {pc : Nat} {st : List Value}
theorem xw_lv {lv1 : List (Nat × Value)} (ks : List Nat) (hl : lv_pick lv ks = lv1) (kk : tj_W Γ cw σ lv1 pc st) : tj_W Γ cw σ lv pc st := by
  obtain ⟨p, l, e, R, s, m, args, below, meth, c, A, H0, cells, slots, Q, D, cls, nL⟩ := Γ
  intro H locs ls hP hD hS hv
  exact kk H locs ls hP hD hS (lv_sub hv ks hl)
theorem xw_ni {α : Type} {x : Int32} {k : Int32 → Option α} {r : α} (h : nm x k = some r) (kk : ∀ y : Int32, k y = some r → tj_W Γ cw σ lv pc (.int y :: st)) : tj_W Γ cw σ lv pc (.int x :: st) := kk x h
theorem xw_ns {α : Type} {k : S → Option α} {r : α} (h : nm σ k = some r) (kk : ∀ y : S, k y = some r → tj_W Γ cw y lv pc st) : tj_W Γ cw σ lv pc st := kk σ h
theorem xw_iconst (C : tj_C Γ l0 D0 cls0 nL0 cc own fr lo Ts tys NL) {n : Int} {v : Int32} (hdg : decode cc pc = .ok (.iconst n, 1)) (hv0 : Int32.ofInt n = v) (kk : tj_W Γ cw σ lv (pc + 1) (.int v :: st)) : tj_W Γ cw σ lv pc (st) := by
  obtain ⟨p, l, e, R, s, m, args, below, meth, c, A, H0, cells, slots, Q, D, cls, nL⟩ := Γ
  obtain ⟨hx, hb, hml, hown, hts, hK, hN, hA, hfr, hlo, hce, hsl, rfl, rfl, rfl, rfl⟩ := C
  intro H locs ls hP hD hS hv
  exact lv_iconst hx hb hdg hv0 (kk H locs ls hP hD hS hv)
theorem xw_bipush (C : tj_C Γ l0 D0 cls0 nL0 cc own fr lo Ts tys NL) {n : Int} {v : Int32} (hdg : decode cc pc = .ok (.bipush n, 2)) (hv0 : (Int8.ofInt n).toInt32 = v) (kk : tj_W Γ cw σ lv (pc + 2) (.int v :: st)) : tj_W Γ cw σ lv pc (st) := by
  obtain ⟨p, l, e, R, s, m, args, below, meth, c, A, H0, cells, slots, Q, D, cls, nL⟩ := Γ
  obtain ⟨hx, hb, hml, hown, hts, hK, hN, hA, hfr, hlo, hce, hsl, rfl, rfl, rfl, rfl⟩ := C
  intro H locs ls hP hD hS hv
  exact lv_bipush hx hb hdg hv0 (kk H locs ls hP hD hS hv)
theorem xw_sipush (C : tj_C Γ l0 D0 cls0 nL0 cc own fr lo Ts tys NL) {n : Int} {v : Int32} (hdg : decode cc pc = .ok (.sipush n, 3)) (hv0 : (Int16.ofInt n).toInt32 = v) (kk : tj_W Γ cw σ lv (pc + 3) (.int v :: st)) : tj_W Γ cw σ lv pc (st) := by
  obtain ⟨p, l, e, R, s, m, args, below, meth, c, A, H0, cells, slots, Q, D, cls, nL⟩ := Γ
  obtain ⟨hx, hb, hml, hown, hts, hK, hN, hA, hfr, hlo, hce, hsl, rfl, rfl, rfl, rfl⟩ := C
  intro H locs ls hP hD hS hv
  exact lv_sipush hx hb hdg hv0 (kk H locs ls hP hD hS hv)
theorem xw_ldc (C : tj_C Γ l0 D0 cls0 nL0 cc own fr lo Ts tys NL) {index : Nat} {v : Int32} (hc : Jvm.Cond.constant own index v ∈ Ts) (hdg : decode cc pc = .ok (.ldc index, 2)) (kk : tj_W Γ cw σ lv (pc + 2) (.int v :: st)) : tj_W Γ cw σ lv pc (st) := by
  obtain ⟨p, l, e, R, s, m, args, below, meth, c, A, H0, cells, slots, Q, D, cls, nL⟩ := Γ
  obtain ⟨hx, hb, hml, hown, hts, hK, hN, hA, hfr, hlo, hce, hsl, rfl, rfl, rfl, rfl⟩ := C
  intro H locs ls hP hD hS hv
  exact lv_ldc hx hb hown (hts _ hc) hdg (kk H locs ls hP hD hS hv)
theorem xw_ldcw (C : tj_C Γ l0 D0 cls0 nL0 cc own fr lo Ts tys NL) {index : Nat} {v : Int32} (hc : Jvm.Cond.constant own index v ∈ Ts) (hdg : decode cc pc = .ok (.ldc_w index, 3)) (kk : tj_W Γ cw σ lv (pc + 3) (.int v :: st)) : tj_W Γ cw σ lv pc (st) := by
  obtain ⟨p, l, e, R, s, m, args, below, meth, c, A, H0, cells, slots, Q, D, cls, nL⟩ := Γ
  obtain ⟨hx, hb, hml, hown, hts, hK, hN, hA, hfr, hlo, hce, hsl, rfl, rfl, rfl, rfl⟩ := C
  intro H locs ls hP hD hS hv
  exact lv_ldcw hx hb hown (hts _ hc) hdg (kk H locs ls hP hD hS hv)
theorem xw_iload_n (C : tj_C Γ l0 D0 cls0 nL0 cc own fr lo Ts tys NL) {k : Fin 4} {x : Int32} (hdg : decode cc pc = .ok (.iload_n k, 1)) (j : Nat) (hl : lv[j]? = some ((k : Nat), .int x)) (kk : tj_W Γ cw σ lv (pc + 1) (.int x :: st)) : tj_W Γ cw σ lv pc (st) := by
  obtain ⟨p, l, e, R, s, m, args, below, meth, c, A, H0, cells, slots, Q, D, cls, nL⟩ := Γ
  obtain ⟨hx, hb, hml, hown, hts, hK, hN, hA, hfr, hlo, hce, hsl, rfl, rfl, rfl, rfl⟩ := C
  intro H locs ls hP hD hS hv
  exact lv_iload_n hx hb hdg rfl (lv_at hv j hl) (kk H locs ls hP hD hS hv)
theorem xw_iload (C : tj_C Γ l0 D0 cls0 nL0 cc own fr lo Ts tys NL) {i : Nat} {x : Int32} (hdg : decode cc pc = .ok (.iload i, 2)) (j : Nat) (hl : lv[j]? = some (i, .int x)) (kk : tj_W Γ cw σ lv (pc + 2) (.int x :: st)) : tj_W Γ cw σ lv pc (st) := by
  obtain ⟨p, l, e, R, s, m, args, below, meth, c, A, H0, cells, slots, Q, D, cls, nL⟩ := Γ
  obtain ⟨hx, hb, hml, hown, hts, hK, hN, hA, hfr, hlo, hce, hsl, rfl, rfl, rfl, rfl⟩ := C
  intro H locs ls hP hD hS hv
  exact lv_iload hx hb hdg (lv_at hv j hl) (kk H locs ls hP hD hS hv)
theorem xw_aload_n (C : tj_C Γ l0 D0 cls0 nL0 cc own fr lo Ts tys NL) {k : Fin 4} {x : Nat} (hdg : decode cc pc = .ok (.aload_n k, 1)) (j : Nat) (hl : lv[j]? = some ((k : Nat), .ref x)) (kk : tj_W Γ cw σ lv (pc + 1) (.ref x :: st)) : tj_W Γ cw σ lv pc (st) := by
  obtain ⟨p, l, e, R, s, m, args, below, meth, c, A, H0, cells, slots, Q, D, cls, nL⟩ := Γ
  obtain ⟨hx, hb, hml, hown, hts, hK, hN, hA, hfr, hlo, hce, hsl, rfl, rfl, rfl, rfl⟩ := C
  intro H locs ls hP hD hS hv
  exact lv_aload_n hx hb hdg rfl (lv_at hv j hl) (kk H locs ls hP hD hS hv)
theorem xw_aload (C : tj_C Γ l0 D0 cls0 nL0 cc own fr lo Ts tys NL) {i : Nat} {x : Nat} (hdg : decode cc pc = .ok (.aload i, 2)) (j : Nat) (hl : lv[j]? = some (i, .ref x)) (kk : tj_W Γ cw σ lv (pc + 2) (.ref x :: st)) : tj_W Γ cw σ lv pc (st) := by
  obtain ⟨p, l, e, R, s, m, args, below, meth, c, A, H0, cells, slots, Q, D, cls, nL⟩ := Γ
  obtain ⟨hx, hb, hml, hown, hts, hK, hN, hA, hfr, hlo, hce, hsl, rfl, rfl, rfl, rfl⟩ := C
  intro H locs ls hP hD hS hv
  exact lv_aload hx hb hdg (lv_at hv j hl) (kk H locs ls hP hD hS hv)
theorem xw_istore_n (C : tj_C Γ l0 D0 cls0 nL0 cc own fr lo Ts tys NL) {k : Fin 4} {i : Nat} {x : Int32} {lv1 : List (Nat × Value)} (hdg : decode cc pc = .ok (.istore_n k, 1)) (hi : (k : Nat) = i) (hn : i < nL0) (hl : (i, Value.int x) :: lv.filter (fun q => !(q.1 == i) && !(q.1 + 1 == i && q.2.category == 2)) = lv1) (kk : tj_W Γ cw σ lv1 (pc + 1) (st)) : tj_W Γ cw σ lv pc (.int x :: st) := by
  obtain ⟨p, l, e, R, s, m, args, below, meth, c, A, H0, cells, slots, Q, D, cls, nL⟩ := Γ
  obtain ⟨hx, hb, hml, hown, hts, hK, hN, hA, hfr, hlo, hce, hsl, rfl, rfl, rfl, rfl⟩ := C
  intro H locs ls hP hD hS hv
  exact lv_istore_n hx hb hdg hi hv hn hl (fun ls1 hv1 => kk H locs ls1 hP hD hS hv1)
theorem xw_istore (C : tj_C Γ l0 D0 cls0 nL0 cc own fr lo Ts tys NL) {i : Nat} {x : Int32} {lv1 : List (Nat × Value)} (hdg : decode cc pc = .ok (.istore i, 2)) (hn : i < nL0) (hl : (i, Value.int x) :: lv.filter (fun q => !(q.1 == i) && !(q.1 + 1 == i && q.2.category == 2)) = lv1) (kk : tj_W Γ cw σ lv1 (pc + 2) (st)) : tj_W Γ cw σ lv pc (.int x :: st) := by
  obtain ⟨p, l, e, R, s, m, args, below, meth, c, A, H0, cells, slots, Q, D, cls, nL⟩ := Γ
  obtain ⟨hx, hb, hml, hown, hts, hK, hN, hA, hfr, hlo, hce, hsl, rfl, rfl, rfl, rfl⟩ := C
  intro H locs ls hP hD hS hv
  exact lv_istore hx hb hdg hv hn hl (fun ls1 hv1 => kk H locs ls1 hP hD hS hv1)
theorem xw_astore_n (C : tj_C Γ l0 D0 cls0 nL0 cc own fr lo Ts tys NL) {k : Fin 4} {i : Nat} {x : Nat} {lv1 : List (Nat × Value)} (hdg : decode cc pc = .ok (.astore_n k, 1)) (hi : (k : Nat) = i) (hn : i < nL0) (hl : (i, Value.ref x) :: lv.filter (fun q => !(q.1 == i) && !(q.1 + 1 == i && q.2.category == 2)) = lv1) (kk : tj_W Γ cw σ lv1 (pc + 1) (st)) : tj_W Γ cw σ lv pc (.ref x :: st) := by
  obtain ⟨p, l, e, R, s, m, args, below, meth, c, A, H0, cells, slots, Q, D, cls, nL⟩ := Γ
  obtain ⟨hx, hb, hml, hown, hts, hK, hN, hA, hfr, hlo, hce, hsl, rfl, rfl, rfl, rfl⟩ := C
  intro H locs ls hP hD hS hv
  exact lv_astore_n hx hb hdg hi hv hn hl (fun ls1 hv1 => kk H locs ls1 hP hD hS hv1)
theorem xw_iinc (C : tj_C Γ l0 D0 cls0 nL0 cc own fr lo Ts tys NL) {α : Type} {i : Nat} {n : Int} {x : Int32} {kf : Int32 → Option α} {r : α} (h : nm (x + Int32.ofInt n) kf = some r) (lv1 : Int32 → List (Nat × Value)) (hdg : decode cc pc = .ok (.iinc i n, 3)) (j : Nat) (hk : lv[j]? = some (i, .int x)) (hn : i < nL0) (hl : ∀ v : Int32, (i, Value.int v) :: lv.filter (fun q => !(q.1 == i) && !(q.1 + 1 == i && q.2.category == 2)) = lv1 v) (kk : ∀ v : Int32, kf v = some r → tj_W Γ cw σ (lv1 v) (pc + 3) st) : tj_W Γ cw σ lv pc (st) := by
  obtain ⟨p, l, e, R, s, m, args, below, meth, c, A, H0, cells, slots, Q, D, cls, nL⟩ := Γ
  obtain ⟨hx, hb, hml, hown, hts, hK, hN, hA, hfr, hlo, hce, hsl, rfl, rfl, rfl, rfl⟩ := C
  intro H locs ls hP hD hS hv
  exact lv_iinc hx hb hdg hv hk rfl hn (hl _) (fun ls1 hv1 => kk _ h H locs ls1 hP hD hS hv1)
theorem xw_iadd (C : tj_C Γ l0 D0 cls0 nL0 cc own fr lo Ts tys NL) {x y : Int32} (hdg : decode cc pc = .ok (.iadd, 1)) (kk : tj_W Γ cw σ lv (pc + 1) (.int (x + y) :: st)) : tj_W Γ cw σ lv pc (.int y :: .int x :: st) := by
  obtain ⟨p, l, e, R, s, m, args, below, meth, c, A, H0, cells, slots, Q, D, cls, nL⟩ := Γ
  obtain ⟨hx, hb, hml, hown, hts, hK, hN, hA, hfr, hlo, hce, hsl, rfl, rfl, rfl, rfl⟩ := C
  intro H locs ls hP hD hS hv
  exact lv_iadd hx hb hdg (kk H locs ls hP hD hS hv)
theorem xw_isub (C : tj_C Γ l0 D0 cls0 nL0 cc own fr lo Ts tys NL) {x y : Int32} (hdg : decode cc pc = .ok (.isub, 1)) (kk : tj_W Γ cw σ lv (pc + 1) (.int (x - y) :: st)) : tj_W Γ cw σ lv pc (.int y :: .int x :: st) := by
  obtain ⟨p, l, e, R, s, m, args, below, meth, c, A, H0, cells, slots, Q, D, cls, nL⟩ := Γ
  obtain ⟨hx, hb, hml, hown, hts, hK, hN, hA, hfr, hlo, hce, hsl, rfl, rfl, rfl, rfl⟩ := C
  intro H locs ls hP hD hS hv
  exact lv_isub hx hb hdg (kk H locs ls hP hD hS hv)
theorem xw_imul (C : tj_C Γ l0 D0 cls0 nL0 cc own fr lo Ts tys NL) {x y : Int32} (hdg : decode cc pc = .ok (.imul, 1)) (kk : tj_W Γ cw σ lv (pc + 1) (.int (x * y) :: st)) : tj_W Γ cw σ lv pc (.int y :: .int x :: st) := by
  obtain ⟨p, l, e, R, s, m, args, below, meth, c, A, H0, cells, slots, Q, D, cls, nL⟩ := Γ
  obtain ⟨hx, hb, hml, hown, hts, hK, hN, hA, hfr, hlo, hce, hsl, rfl, rfl, rfl, rfl⟩ := C
  intro H locs ls hP hD hS hv
  exact lv_imul hx hb hdg (kk H locs ls hP hD hS hv)
theorem xw_iand (C : tj_C Γ l0 D0 cls0 nL0 cc own fr lo Ts tys NL) {x y : Int32} (hdg : decode cc pc = .ok (.iand, 1)) (kk : tj_W Γ cw σ lv (pc + 1) (.int (x &&& y) :: st)) : tj_W Γ cw σ lv pc (.int y :: .int x :: st) := by
  obtain ⟨p, l, e, R, s, m, args, below, meth, c, A, H0, cells, slots, Q, D, cls, nL⟩ := Γ
  obtain ⟨hx, hb, hml, hown, hts, hK, hN, hA, hfr, hlo, hce, hsl, rfl, rfl, rfl, rfl⟩ := C
  intro H locs ls hP hD hS hv
  exact lv_iand hx hb hdg (kk H locs ls hP hD hS hv)
theorem xw_ior (C : tj_C Γ l0 D0 cls0 nL0 cc own fr lo Ts tys NL) {x y : Int32} (hdg : decode cc pc = .ok (.ior, 1)) (kk : tj_W Γ cw σ lv (pc + 1) (.int (x ||| y) :: st)) : tj_W Γ cw σ lv pc (.int y :: .int x :: st) := by
  obtain ⟨p, l, e, R, s, m, args, below, meth, c, A, H0, cells, slots, Q, D, cls, nL⟩ := Γ
  obtain ⟨hx, hb, hml, hown, hts, hK, hN, hA, hfr, hlo, hce, hsl, rfl, rfl, rfl, rfl⟩ := C
  intro H locs ls hP hD hS hv
  exact lv_ior hx hb hdg (kk H locs ls hP hD hS hv)
theorem xw_ixor (C : tj_C Γ l0 D0 cls0 nL0 cc own fr lo Ts tys NL) {x y : Int32} (hdg : decode cc pc = .ok (.ixor, 1)) (kk : tj_W Γ cw σ lv (pc + 1) (.int (x ^^^ y) :: st)) : tj_W Γ cw σ lv pc (.int y :: .int x :: st) := by
  obtain ⟨p, l, e, R, s, m, args, below, meth, c, A, H0, cells, slots, Q, D, cls, nL⟩ := Γ
  obtain ⟨hx, hb, hml, hown, hts, hK, hN, hA, hfr, hlo, hce, hsl, rfl, rfl, rfl, rfl⟩ := C
  intro H locs ls hP hD hS hv
  exact lv_ixor hx hb hdg (kk H locs ls hP hD hS hv)
theorem xw_ishl (C : tj_C Γ l0 D0 cls0 nL0 cc own fr lo Ts tys NL) {x y : Int32} (hdg : decode cc pc = .ok (.ishl, 1)) (kk : tj_W Γ cw σ lv (pc + 1) (.int (x <<< (y &&& 31)) :: st)) : tj_W Γ cw σ lv pc (.int y :: .int x :: st) := by
  obtain ⟨p, l, e, R, s, m, args, below, meth, c, A, H0, cells, slots, Q, D, cls, nL⟩ := Γ
  obtain ⟨hx, hb, hml, hown, hts, hK, hN, hA, hfr, hlo, hce, hsl, rfl, rfl, rfl, rfl⟩ := C
  intro H locs ls hP hD hS hv
  exact lv_ishl hx hb hdg (kk H locs ls hP hD hS hv)
theorem xw_ishr (C : tj_C Γ l0 D0 cls0 nL0 cc own fr lo Ts tys NL) {x y : Int32} (hdg : decode cc pc = .ok (.ishr, 1)) (kk : tj_W Γ cw σ lv (pc + 1) (.int (x >>> (y &&& 31)) :: st)) : tj_W Γ cw σ lv pc (.int y :: .int x :: st) := by
  obtain ⟨p, l, e, R, s, m, args, below, meth, c, A, H0, cells, slots, Q, D, cls, nL⟩ := Γ
  obtain ⟨hx, hb, hml, hown, hts, hK, hN, hA, hfr, hlo, hce, hsl, rfl, rfl, rfl, rfl⟩ := C
  intro H locs ls hP hD hS hv
  exact lv_ishr hx hb hdg (kk H locs ls hP hD hS hv)
theorem xw_iushr (C : tj_C Γ l0 D0 cls0 nL0 cc own fr lo Ts tys NL) {x y : Int32} (hdg : decode cc pc = .ok (.iushr, 1)) (kk : tj_W Γ cw σ lv (pc + 1) (.int ((x.toUInt32 >>> (y.toUInt32 &&& Int32.toUInt32 31)).toInt32) :: st)) : tj_W Γ cw σ lv pc (.int y :: .int x :: st) := by
  obtain ⟨p, l, e, R, s, m, args, below, meth, c, A, H0, cells, slots, Q, D, cls, nL⟩ := Γ
  obtain ⟨hx, hb, hml, hown, hts, hK, hN, hA, hfr, hlo, hce, hsl, rfl, rfl, rfl, rfl⟩ := C
  intro H locs ls hP hD hS hv
  exact lv_iushr hx hb hdg rfl (kk H locs ls hP hD hS hv)
theorem xw_idiv (C : tj_C Γ l0 D0 cls0 nL0 cc own fr lo Ts tys NL) {x y : Int32} (hdg : decode cc pc = .ok (.idiv, 1)) (hne : ¬ y = 0) (kk : tj_W Γ cw σ lv (pc + 1) (.int (x / y) :: st)) : tj_W Γ cw σ lv pc (.int y :: .int x :: st) := by
  obtain ⟨p, l, e, R, s, m, args, below, meth, c, A, H0, cells, slots, Q, D, cls, nL⟩ := Γ
  obtain ⟨hx, hb, hml, hown, hts, hK, hN, hA, hfr, hlo, hce, hsl, rfl, rfl, rfl, rfl⟩ := C
  intro H locs ls hP hD hS hv
  exact lv_idiv hx hb hdg hne (kk H locs ls hP hD hS hv)
theorem xw_irem (C : tj_C Γ l0 D0 cls0 nL0 cc own fr lo Ts tys NL) {x y : Int32} (hdg : decode cc pc = .ok (.irem, 1)) (hne : ¬ y = 0) (kk : tj_W Γ cw σ lv (pc + 1) (.int (x - x / y * y) :: st)) : tj_W Γ cw σ lv pc (.int y :: .int x :: st) := by
  obtain ⟨p, l, e, R, s, m, args, below, meth, c, A, H0, cells, slots, Q, D, cls, nL⟩ := Γ
  obtain ⟨hx, hb, hml, hown, hts, hK, hN, hA, hfr, hlo, hce, hsl, rfl, rfl, rfl, rfl⟩ := C
  intro H locs ls hP hD hS hv
  exact lv_irem hx hb hdg hne (kk H locs ls hP hD hS hv)
theorem xw_ineg (C : tj_C Γ l0 D0 cls0 nL0 cc own fr lo Ts tys NL) {x : Int32} (hdg : decode cc pc = .ok (.ineg, 1)) (kk : tj_W Γ cw σ lv (pc + 1) (.int (-x) :: st)) : tj_W Γ cw σ lv pc (.int x :: st) := by
  obtain ⟨p, l, e, R, s, m, args, below, meth, c, A, H0, cells, slots, Q, D, cls, nL⟩ := Γ
  obtain ⟨hx, hb, hml, hown, hts, hK, hN, hA, hfr, hlo, hce, hsl, rfl, rfl, rfl, rfl⟩ := C
  intro H locs ls hP hD hS hv
  exact lv_ineg hx hb hdg (kk H locs ls hP hD hS hv)
theorem xw_dup (C : tj_C Γ l0 D0 cls0 nL0 cc own fr lo Ts tys NL) {v : Value} (hdg : decode cc pc = .ok (.dup, 1)) (hc : v.category = 1) (kk : tj_W Γ cw σ lv (pc + 1) (v :: v :: st)) : tj_W Γ cw σ lv pc (v :: st) := by
  obtain ⟨p, l, e, R, s, m, args, below, meth, c, A, H0, cells, slots, Q, D, cls, nL⟩ := Γ
  obtain ⟨hx, hb, hml, hown, hts, hK, hN, hA, hfr, hlo, hce, hsl, rfl, rfl, rfl, rfl⟩ := C
  intro H locs ls hP hD hS hv
  exact lv_dup hx hb hdg hc (kk H locs ls hP hD hS hv)
theorem xw_pop (C : tj_C Γ l0 D0 cls0 nL0 cc own fr lo Ts tys NL) {v : Value} (hdg : decode cc pc = .ok (.pop, 1)) (hc : v.category = 1) (kk : tj_W Γ cw σ lv (pc + 1) (st)) : tj_W Γ cw σ lv pc (v :: st) := by
  obtain ⟨p, l, e, R, s, m, args, below, meth, c, A, H0, cells, slots, Q, D, cls, nL⟩ := Γ
  obtain ⟨hx, hb, hml, hown, hts, hK, hN, hA, hfr, hlo, hce, hsl, rfl, rfl, rfl, rfl⟩ := C
  intro H locs ls hP hD hS hv
  exact lv_pop hx hb hdg hc (kk H locs ls hP hD hS hv)
theorem xw_dup2 (C : tj_C Γ l0 D0 cls0 nL0 cc own fr lo Ts tys NL) {v w : Value} (hdg : decode cc pc = .ok (.dup2, 1)) (hc : v.category = 1) (hc2 : w.category = 1) (kk : tj_W Γ cw σ lv (pc + 1) (v :: w :: v :: w :: st)) : tj_W Γ cw σ lv pc (v :: w :: st) := by
  obtain ⟨p, l, e, R, s, m, args, below, meth, c, A, H0, cells, slots, Q, D, cls, nL⟩ := Γ
  obtain ⟨hx, hb, hml, hown, hts, hK, hN, hA, hfr, hlo, hce, hsl, rfl, rfl, rfl, rfl⟩ := C
  intro H locs ls hP hD hS hv
  exact lv_dup2_11 hx hb hdg hc hc2 (kk H locs ls hP hD hS hv)
theorem xw_dup_x1 (C : tj_C Γ l0 D0 cls0 nL0 cc own fr lo Ts tys NL) {v w : Value} (hdg : decode cc pc = .ok (.dup_x1, 1)) (hc : v.category = 1) (hc2 : w.category = 1) (kk : tj_W Γ cw σ lv (pc + 1) (v :: w :: v :: st)) : tj_W Γ cw σ lv pc (v :: w :: st) := by
  obtain ⟨p, l, e, R, s, m, args, below, meth, c, A, H0, cells, slots, Q, D, cls, nL⟩ := Γ
  obtain ⟨hx, hb, hml, hown, hts, hK, hN, hA, hfr, hlo, hce, hsl, rfl, rfl, rfl, rfl⟩ := C
  intro H locs ls hP hD hS hv
  exact lv_dup_x1 hx hb hdg hc hc2 (kk H locs ls hP hD hS hv)
theorem xw_if_eq (C : tj_C Γ l0 D0 cls0 nL0 cc own fr lo Ts tys NL) {x : Int32} {off : Int} {tgt : Nat} (hdg : decode cc pc = .ok (.ifCond .eq off, 3)) (ht : (pc : Int) + off = (tgt : Int)) (kt : x = 0 → tj_W Γ cw σ lv (tgt) (st)) (kf : ¬ x = 0 → tj_W Γ cw σ lv (pc + 3) (st)) : tj_W Γ cw σ lv pc (.int x :: st) := by
  obtain ⟨p, l, e, R, s, m, args, below, meth, c, A, H0, cells, slots, Q, D, cls, nL⟩ := Γ
  obtain ⟨hx, hb, hml, hown, hts, hK, hN, hA, hfr, hlo, hce, hsl, rfl, rfl, rfl, rfl⟩ := C
  intro H locs ls hP hD hS hv
  exact lv_if_eq hx hb hdg ht (fun h => kt h H locs ls hP hD hS hv) (fun h => kf h H locs ls hP hD hS hv)
theorem xw_if_ne (C : tj_C Γ l0 D0 cls0 nL0 cc own fr lo Ts tys NL) {x : Int32} {off : Int} {tgt : Nat} (hdg : decode cc pc = .ok (.ifCond .ne off, 3)) (ht : (pc : Int) + off = (tgt : Int)) (kt : ¬ x = 0 → tj_W Γ cw σ lv (tgt) (st)) (kf : x = 0 → tj_W Γ cw σ lv (pc + 3) (st)) : tj_W Γ cw σ lv pc (.int x :: st) := by
  obtain ⟨p, l, e, R, s, m, args, below, meth, c, A, H0, cells, slots, Q, D, cls, nL⟩ := Γ
  obtain ⟨hx, hb, hml, hown, hts, hK, hN, hA, hfr, hlo, hce, hsl, rfl, rfl, rfl, rfl⟩ := C
  intro H locs ls hP hD hS hv
  exact lv_if_ne hx hb hdg ht (fun h => kt h H locs ls hP hD hS hv) (fun h => kf h H locs ls hP hD hS hv)
theorem xw_if_lt (C : tj_C Γ l0 D0 cls0 nL0 cc own fr lo Ts tys NL) {x : Int32} {off : Int} {tgt : Nat} (hdg : decode cc pc = .ok (.ifCond .lt off, 3)) (ht : (pc : Int) + off = (tgt : Int)) (kt : x < 0 → tj_W Γ cw σ lv (tgt) (st)) (kf : ¬ x < 0 → tj_W Γ cw σ lv (pc + 3) (st)) : tj_W Γ cw σ lv pc (.int x :: st) := by
  obtain ⟨p, l, e, R, s, m, args, below, meth, c, A, H0, cells, slots, Q, D, cls, nL⟩ := Γ
  obtain ⟨hx, hb, hml, hown, hts, hK, hN, hA, hfr, hlo, hce, hsl, rfl, rfl, rfl, rfl⟩ := C
  intro H locs ls hP hD hS hv
  exact lv_if_lt hx hb hdg ht (fun h => kt h H locs ls hP hD hS hv) (fun h => kf h H locs ls hP hD hS hv)
theorem xw_if_ge (C : tj_C Γ l0 D0 cls0 nL0 cc own fr lo Ts tys NL) {x : Int32} {off : Int} {tgt : Nat} (hdg : decode cc pc = .ok (.ifCond .ge off, 3)) (ht : (pc : Int) + off = (tgt : Int)) (kt : 0 ≤ x → tj_W Γ cw σ lv (tgt) (st)) (kf : ¬ 0 ≤ x → tj_W Γ cw σ lv (pc + 3) (st)) : tj_W Γ cw σ lv pc (.int x :: st) := by
  obtain ⟨p, l, e, R, s, m, args, below, meth, c, A, H0, cells, slots, Q, D, cls, nL⟩ := Γ
  obtain ⟨hx, hb, hml, hown, hts, hK, hN, hA, hfr, hlo, hce, hsl, rfl, rfl, rfl, rfl⟩ := C
  intro H locs ls hP hD hS hv
  exact lv_if_ge hx hb hdg ht (fun h => kt h H locs ls hP hD hS hv) (fun h => kf h H locs ls hP hD hS hv)
theorem xw_if_gt (C : tj_C Γ l0 D0 cls0 nL0 cc own fr lo Ts tys NL) {x : Int32} {off : Int} {tgt : Nat} (hdg : decode cc pc = .ok (.ifCond .gt off, 3)) (ht : (pc : Int) + off = (tgt : Int)) (kt : 0 < x → tj_W Γ cw σ lv (tgt) (st)) (kf : ¬ 0 < x → tj_W Γ cw σ lv (pc + 3) (st)) : tj_W Γ cw σ lv pc (.int x :: st) := by
  obtain ⟨p, l, e, R, s, m, args, below, meth, c, A, H0, cells, slots, Q, D, cls, nL⟩ := Γ
  obtain ⟨hx, hb, hml, hown, hts, hK, hN, hA, hfr, hlo, hce, hsl, rfl, rfl, rfl, rfl⟩ := C
  intro H locs ls hP hD hS hv
  exact lv_if_gt hx hb hdg ht (fun h => kt h H locs ls hP hD hS hv) (fun h => kf h H locs ls hP hD hS hv)
theorem xw_if_le (C : tj_C Γ l0 D0 cls0 nL0 cc own fr lo Ts tys NL) {x : Int32} {off : Int} {tgt : Nat} (hdg : decode cc pc = .ok (.ifCond .le off, 3)) (ht : (pc : Int) + off = (tgt : Int)) (kt : x ≤ 0 → tj_W Γ cw σ lv (tgt) (st)) (kf : ¬ x ≤ 0 → tj_W Γ cw σ lv (pc + 3) (st)) : tj_W Γ cw σ lv pc (.int x :: st) := by
  obtain ⟨p, l, e, R, s, m, args, below, meth, c, A, H0, cells, slots, Q, D, cls, nL⟩ := Γ
  obtain ⟨hx, hb, hml, hown, hts, hK, hN, hA, hfr, hlo, hce, hsl, rfl, rfl, rfl, rfl⟩ := C
  intro H locs ls hP hD hS hv
  exact lv_if_le hx hb hdg ht (fun h => kt h H locs ls hP hD hS hv) (fun h => kf h H locs ls hP hD hS hv)
theorem xw_icmp_eq (C : tj_C Γ l0 D0 cls0 nL0 cc own fr lo Ts tys NL) {x y : Int32} {off : Int} {tgt : Nat} (hdg : decode cc pc = .ok (.if_icmp .eq off, 3)) (ht : (pc : Int) + off = (tgt : Int)) (kt : x = y → tj_W Γ cw σ lv (tgt) (st)) (kf : ¬ x = y → tj_W Γ cw σ lv (pc + 3) (st)) : tj_W Γ cw σ lv pc (.int y :: .int x :: st) := by
  obtain ⟨p, l, e, R, s, m, args, below, meth, c, A, H0, cells, slots, Q, D, cls, nL⟩ := Γ
  obtain ⟨hx, hb, hml, hown, hts, hK, hN, hA, hfr, hlo, hce, hsl, rfl, rfl, rfl, rfl⟩ := C
  intro H locs ls hP hD hS hv
  exact lv_icmp_eq hx hb hdg ht (fun h => kt h H locs ls hP hD hS hv) (fun h => kf h H locs ls hP hD hS hv)
theorem xw_icmp_ne (C : tj_C Γ l0 D0 cls0 nL0 cc own fr lo Ts tys NL) {x y : Int32} {off : Int} {tgt : Nat} (hdg : decode cc pc = .ok (.if_icmp .ne off, 3)) (ht : (pc : Int) + off = (tgt : Int)) (kt : ¬ x = y → tj_W Γ cw σ lv (tgt) (st)) (kf : x = y → tj_W Γ cw σ lv (pc + 3) (st)) : tj_W Γ cw σ lv pc (.int y :: .int x :: st) := by
  obtain ⟨p, l, e, R, s, m, args, below, meth, c, A, H0, cells, slots, Q, D, cls, nL⟩ := Γ
  obtain ⟨hx, hb, hml, hown, hts, hK, hN, hA, hfr, hlo, hce, hsl, rfl, rfl, rfl, rfl⟩ := C
  intro H locs ls hP hD hS hv
  exact lv_icmp_ne hx hb hdg ht (fun h => kt h H locs ls hP hD hS hv) (fun h => kf h H locs ls hP hD hS hv)
theorem xw_icmp_lt (C : tj_C Γ l0 D0 cls0 nL0 cc own fr lo Ts tys NL) {x y : Int32} {off : Int} {tgt : Nat} (hdg : decode cc pc = .ok (.if_icmp .lt off, 3)) (ht : (pc : Int) + off = (tgt : Int)) (kt : x < y → tj_W Γ cw σ lv (tgt) (st)) (kf : ¬ x < y → tj_W Γ cw σ lv (pc + 3) (st)) : tj_W Γ cw σ lv pc (.int y :: .int x :: st) := by
  obtain ⟨p, l, e, R, s, m, args, below, meth, c, A, H0, cells, slots, Q, D, cls, nL⟩ := Γ
  obtain ⟨hx, hb, hml, hown, hts, hK, hN, hA, hfr, hlo, hce, hsl, rfl, rfl, rfl, rfl⟩ := C
  intro H locs ls hP hD hS hv
  exact lv_icmp_lt hx hb hdg ht (fun h => kt h H locs ls hP hD hS hv) (fun h => kf h H locs ls hP hD hS hv)
theorem xw_icmp_ge (C : tj_C Γ l0 D0 cls0 nL0 cc own fr lo Ts tys NL) {x y : Int32} {off : Int} {tgt : Nat} (hdg : decode cc pc = .ok (.if_icmp .ge off, 3)) (ht : (pc : Int) + off = (tgt : Int)) (kt : y ≤ x → tj_W Γ cw σ lv (tgt) (st)) (kf : ¬ y ≤ x → tj_W Γ cw σ lv (pc + 3) (st)) : tj_W Γ cw σ lv pc (.int y :: .int x :: st) := by
  obtain ⟨p, l, e, R, s, m, args, below, meth, c, A, H0, cells, slots, Q, D, cls, nL⟩ := Γ
  obtain ⟨hx, hb, hml, hown, hts, hK, hN, hA, hfr, hlo, hce, hsl, rfl, rfl, rfl, rfl⟩ := C
  intro H locs ls hP hD hS hv
  exact lv_icmp_ge hx hb hdg ht (fun h => kt h H locs ls hP hD hS hv) (fun h => kf h H locs ls hP hD hS hv)
theorem xw_icmp_gt (C : tj_C Γ l0 D0 cls0 nL0 cc own fr lo Ts tys NL) {x y : Int32} {off : Int} {tgt : Nat} (hdg : decode cc pc = .ok (.if_icmp .gt off, 3)) (ht : (pc : Int) + off = (tgt : Int)) (kt : y < x → tj_W Γ cw σ lv (tgt) (st)) (kf : ¬ y < x → tj_W Γ cw σ lv (pc + 3) (st)) : tj_W Γ cw σ lv pc (.int y :: .int x :: st) := by
  obtain ⟨p, l, e, R, s, m, args, below, meth, c, A, H0, cells, slots, Q, D, cls, nL⟩ := Γ
  obtain ⟨hx, hb, hml, hown, hts, hK, hN, hA, hfr, hlo, hce, hsl, rfl, rfl, rfl, rfl⟩ := C
  intro H locs ls hP hD hS hv
  exact lv_icmp_gt hx hb hdg ht (fun h => kt h H locs ls hP hD hS hv) (fun h => kf h H locs ls hP hD hS hv)
theorem xw_icmp_le (C : tj_C Γ l0 D0 cls0 nL0 cc own fr lo Ts tys NL) {x y : Int32} {off : Int} {tgt : Nat} (hdg : decode cc pc = .ok (.if_icmp .le off, 3)) (ht : (pc : Int) + off = (tgt : Int)) (kt : x ≤ y → tj_W Γ cw σ lv (tgt) (st)) (kf : ¬ x ≤ y → tj_W Γ cw σ lv (pc + 3) (st)) : tj_W Γ cw σ lv pc (.int y :: .int x :: st) := by
  obtain ⟨p, l, e, R, s, m, args, below, meth, c, A, H0, cells, slots, Q, D, cls, nL⟩ := Γ
  obtain ⟨hx, hb, hml, hown, hts, hK, hN, hA, hfr, hlo, hce, hsl, rfl, rfl, rfl, rfl⟩ := C
  intro H locs ls hP hD hS hv
  exact lv_icmp_le hx hb hdg ht (fun h => kt h H locs ls hP hD hS hv) (fun h => kf h H locs ls hP hD hS hv)
theorem xw_goto (C : tj_C Γ l0 D0 cls0 nL0 cc own fr lo Ts tys NL) {off : Int} {tgt : Nat} (hdg : decode cc pc = .ok (.goto off, 3)) (ht : (pc : Int) + off = (tgt : Int)) (kk : tj_W Γ cw σ lv (tgt) (st)) : tj_W Γ cw σ lv pc st := by
  obtain ⟨p, l, e, R, s, m, args, below, meth, c, A, H0, cells, slots, Q, D, cls, nL⟩ := Γ
  obtain ⟨hx, hb, hml, hown, hts, hK, hN, hA, hfr, hlo, hce, hsl, rfl, rfl, rfl, rfl⟩ := C
  intro H locs ls hP hD hS hv
  exact lv_goto hx hb hdg ht (kk H locs ls hP hD hS hv)
def tj_F (Cn : String) (T : u_T) (N : Nat) (ty0 : Nat → FieldType) (Ts : List Cond) : Prop := (∀ w ∈ u_ws Cn T N, w ∈ Ts) ∧ (∀ k, k < N → parseFieldDescriptor (T k).2.2.1 = some (ty0 k)) ∧ (∀ a, a < N → ∀ b, b < N → a ≠ b → (T a).2.1 ≠ (T b).2.1)
theorem xw_get (C : tj_C Γ l0 D0 cls0 nL0 cc own fr lo Ts tys NL) {Cn : String} {T : u_T} {N ci index a : Nat} {ty0 : Nat → FieldType} {fs : List Value} (F : tj_F Cn T N ty0 Ts) (q0 : Nat) (he : (cw σ)[q0]? = some (a, .inr (ci, fs))) (hc : cls0[ci]? = some (Cn, T, N)) (k : Nat) (hk : k < N) (hlink : Cond.fieldLink own index (T k).1 (T k).2.1 (T k).2.2.1 ∈ Ts) {v : Value} (hv0 : fs[k]? = some v) (hdg : decode cc pc = .ok (.getfield index, 3)) (kk : tj_W Γ cw σ lv (pc + 3) (v :: st)) : tj_W Γ cw σ lv pc (.ref a :: st) := by
  obtain ⟨p, l, e, R, s, m, args, below, meth, c, A, H0, cells, slots, Q, D, cls, nL⟩ := Γ
  obtain ⟨hx, hb, hml, hown, hts, hK, hN, hA, hfr, hlo, hce, hsl, rfl, rfl, rfl, rfl⟩ := C
  intro H locs ls hP hD hS hv
  exact va_get hx hb hts F.1 hown hK hP q0 he hc k hk (hts _ hlink) (fun _ h9 => h9) hv0 hdg (kk H locs ls hP hD hS hv)
theorem xw_getN (C : tj_C Γ l0 D0 cls0 nL0 cc own fr lo Ts tys NL) {Cn : String} {T : u_T} {N ci index a : Nat} {ty0 : Nat → FieldType} {fs : List Value} (F : tj_F Cn T N ty0 Ts) (q0 : Nat) (he : (cw σ)[q0]? = some (a, .inr (ci, fs))) (hc : cls0[ci]? = some (Cn, T, N)) (k : Nat) (hk : k < N) (host : String) (hlink : Cond.fieldLinkNest own index (T k).1 (T k).2.1 (T k).2.2.1 host ∈ NL) {v : Value} (hv0 : fs[k]? = some v) (hdg : decode cc pc = .ok (.getfield index, 3)) (kk : tj_W Γ cw σ lv (pc + 3) (v :: st)) : tj_W Γ cw σ lv pc (.ref a :: st) := by
  obtain ⟨p, l, e, R, s, m, args, below, meth, c, A, H0, cells, slots, Q, D, cls, nL⟩ := Γ
  obtain ⟨hx, hb, hml, hown, hts, hK, hN, hA, hfr, hlo, hce, hsl, rfl, rfl, rfl, rfl⟩ := C
  intro H locs ls hP hD hS hv
  exact va_getN hx hb hts F.1 hown hK hP q0 he hc k hk (va_Nw.use rfl (hN _ hlink)) (fun _ h9 => h9) hv0 hdg (kk H locs ls hP hD hS hv)
theorem xw_put (C : tj_C Γ l0 D0 cls0 nL0 cc own fr lo Ts tys NL) {Cn : String} {T : u_T} {N ci index a : Nat} {ty0 : Nat → FieldType} {fs : List Value} (F : tj_F Cn T N ty0 Ts) (q0 : Nat) (he : (cw σ)[q0]? = some (a, .inr (ci, fs))) (hc : cls0[ci]? = some (Cn, T, N)) (k : Nat) (hk : k < N) (hlink : Cond.fieldLink own index (T k).1 (T k).2.1 (T k).2.2.1 ∈ Ts) (hfin : (T k).2.2.2 = false) {v : Value} (hn : narrow (ty0 k) v = v) (hfit : fits (ty0 k) v = true) (hl : k < fs.length) (hdg : decode cc pc = .ok (.putfield index, 3)) {σ1 : S} (hσ : (cw σ).set q0 (a, .inr (ci, fs.set k v)) = cw σ1) (kk : tj_W Γ cw σ1 lv (pc + 3) (st)) : tj_W Γ cw σ lv pc (v :: .ref a :: st) := by
  obtain ⟨p, l, e, R, s, m, args, below, meth, c, A, H0, cells, slots, Q, D, cls, nL⟩ := Γ
  obtain ⟨hx, hb, hml, hown, hts, hK, hN, hA, hfr, hlo, hce, hsl, rfl, rfl, rfl, rfl⟩ := C
  intro H locs ls hP hD hS hv
  exact va_put hx hb hts F.1 ty0 F.2.1 F.2.2 hown hK hP hD hS q0 he hc k hk (hts _ hlink) (fun _ h9 => h9) hfin (F.2.1 k hk) hn hfit hl hdg (fun H1 locs1 hP1 hD1 hS1 => kk H1 locs1 ls (hσ ▸ hP1) (hσ ▸ hD1) hS1 hv)
theorem xw_putN (C : tj_C Γ l0 D0 cls0 nL0 cc own fr lo Ts tys NL) {Cn : String} {T : u_T} {N ci index a : Nat} {ty0 : Nat → FieldType} {fs : List Value} (F : tj_F Cn T N ty0 Ts) (q0 : Nat) (he : (cw σ)[q0]? = some (a, .inr (ci, fs))) (hc : cls0[ci]? = some (Cn, T, N)) (k : Nat) (hk : k < N) (host : String) (hlink : Cond.fieldLinkNest own index (T k).1 (T k).2.1 (T k).2.2.1 host ∈ NL) (hfin : (T k).2.2.2 = false) {v : Value} (hn : narrow (ty0 k) v = v) (hfit : fits (ty0 k) v = true) (hl : k < fs.length) (hdg : decode cc pc = .ok (.putfield index, 3)) {σ1 : S} (hσ : (cw σ).set q0 (a, .inr (ci, fs.set k v)) = cw σ1) (kk : tj_W Γ cw σ1 lv (pc + 3) (st)) : tj_W Γ cw σ lv pc (v :: .ref a :: st) := by
  obtain ⟨p, l, e, R, s, m, args, below, meth, c, A, H0, cells, slots, Q, D, cls, nL⟩ := Γ
  obtain ⟨hx, hb, hml, hown, hts, hK, hN, hA, hfr, hlo, hce, hsl, rfl, rfl, rfl, rfl⟩ := C
  intro H locs ls hP hD hS hv
  exact va_putN hx hb hts F.1 ty0 F.2.1 F.2.2 hown hK hP hD hS q0 he hc k hk (va_Nw.use rfl (hN _ hlink)) (fun _ h9 => h9) hfin (F.2.1 k hk) hn hfit hl hdg (fun H1 locs1 hP1 hD1 hS1 => kk H1 locs1 ls (hσ ▸ hP1) (hσ ▸ hD1) hS1 hv)
theorem xw_iald (C : tj_C Γ l0 D0 cls0 nL0 cc own fr lo Ts tys NL) (q0 t0 : Nat) {a n : Nat} {cA : ClassId} {f : Nat → Int32} (ha : (cw σ)[q0]? = some (a, .inl (cA, n, .inl f))) (ht : tys[t0]? = some (cA, .int)) {i : Int32} (hin : inb i n = true) (hdg : decode cc pc = .ok (.iaload, 1)) (kk : tj_W Γ cw σ lv (pc + 1) (.int (f i.toNatClampNeg) :: st)) : tj_W Γ cw σ lv pc (.int i :: .ref a :: st) := by
  obtain ⟨p, l, e, R, s, m, args, below, meth, c, A, H0, cells, slots, Q, D, cls, nL⟩ := Γ
  obtain ⟨hx, hb, hml, hown, hts, hK, hN, hA, hfr, hlo, hce, hsl, rfl, rfl, rfl, rfl⟩ := C
  intro H locs ls hP hD hS hv
  exact va_iald hx hb hK hP q0 t0 ha ht (inb_in hin) hdg (kk H locs ls hP hD hS hv)
theorem xw_iast (C : tj_C Γ l0 D0 cls0 nL0 cc own fr lo Ts tys NL) (q0 t0 : Nat) {a n : Nat} {cA : ClassId} {f : Nat → Int32} (ha : (cw σ)[q0]? = some (a, .inl (cA, n, .inl f))) (ht : tys[t0]? = some (cA, .int)) {i x : Int32} (hin : inb i n = true) (hdg : decode cc pc = .ok (.iastore, 1)) {σ1 : S} (hσ : (cw σ).set q0 (a, .inl (cA, n, .inl (upd f i.toNatClampNeg x))) = cw σ1) (kk : tj_W Γ cw σ1 lv (pc + 1) (st)) : tj_W Γ cw σ lv pc (.int x :: .int i :: .ref a :: st) := by
  obtain ⟨p, l, e, R, s, m, args, below, meth, c, A, H0, cells, slots, Q, D, cls, nL⟩ := Γ
  obtain ⟨hx, hb, hml, hown, hts, hK, hN, hA, hfr, hlo, hce, hsl, rfl, rfl, rfl, rfl⟩ := C
  intro H locs ls hP hD hS hv
  exact va_iast hx hb hK hP hD hS q0 t0 ha ht (inb_in hin) hdg (fun H1 locs1 hP1 hD1 hS1 => kk H1 locs1 ls (hσ ▸ hP1) (hσ ▸ hD1) hS1 hv)
theorem xw_zald (C : tj_C Γ l0 D0 cls0 nL0 cc own fr lo Ts tys NL) (q0 t0 : Nat) {a n : Nat} {cA : ClassId} {f : Nat → Int32} (ha : (cw σ)[q0]? = some (a, .inl (cA, n, .inl f))) (ht : tys[t0]? = some (cA, .boolean)) {i : Int32} (hin : inb i n = true) (hdg : decode cc pc = .ok (.baload, 1)) (kk : tj_W Γ cw σ lv (pc + 1) (.int (f i.toNatClampNeg) :: st)) : tj_W Γ cw σ lv pc (.int i :: .ref a :: st) := by
  obtain ⟨p, l, e, R, s, m, args, below, meth, c, A, H0, cells, slots, Q, D, cls, nL⟩ := Γ
  obtain ⟨hx, hb, hml, hown, hts, hK, hN, hA, hfr, hlo, hce, hsl, rfl, rfl, rfl, rfl⟩ := C
  intro H locs ls hP hD hS hv
  exact va_zald hx hb hK hP q0 t0 ha ht (inb_in hin) hdg (kk H locs ls hP hD hS hv)
theorem xw_zast (C : tj_C Γ l0 D0 cls0 nL0 cc own fr lo Ts tys NL) (q0 t0 : Nat) {a n : Nat} {cA : ClassId} {f : Nat → Int32} (ha : (cw σ)[q0]? = some (a, .inl (cA, n, .inl f))) (ht : tys[t0]? = some (cA, .boolean)) {i x : Int32} (hin : inb i n = true) (hdg : decode cc pc = .ok (.bastore, 1)) {σ1 : S} (hσ : (cw σ).set q0 (a, .inl (cA, n, .inl (upd f i.toNatClampNeg (vp_nar .boolean x)))) = cw σ1) (kk : tj_W Γ cw σ1 lv (pc + 1) (st)) : tj_W Γ cw σ lv pc (.int x :: .int i :: .ref a :: st) := by
  obtain ⟨p, l, e, R, s, m, args, below, meth, c, A, H0, cells, slots, Q, D, cls, nL⟩ := Γ
  obtain ⟨hx, hb, hml, hown, hts, hK, hN, hA, hfr, hlo, hce, hsl, rfl, rfl, rfl, rfl⟩ := C
  intro H locs ls hP hD hS hv
  exact va_zast hx hb hK hP hD hS q0 t0 ha ht (inb_in hin) hdg (fun H1 locs1 hP1 hD1 hS1 => kk H1 locs1 ls (hσ ▸ hP1) (hσ ▸ hD1) hS1 hv)
theorem xw_alen (C : tj_C Γ l0 D0 cls0 nL0 cc own fr lo Ts tys NL) (q0 t0 : Nat) {a : Nat} {cA : ClassId} {x : vp_A} (ha : (cw σ)[q0]? = some (a, .inl (cA, x))) {ty : FieldType} (ht : tys[t0]? = some (cA, ty)) {v : Int32} (hv0 : Int32.ofNat x.1 = v) (hdg : decode cc pc = .ok (.arraylength, 1)) (kk : tj_W Γ cw σ lv (pc + 1) (.int v :: st)) : tj_W Γ cw σ lv pc (.ref a :: st) := by
  obtain ⟨p, l, e, R, s, m, args, below, meth, c, A, H0, cells, slots, Q, D, cls, nL⟩ := Γ
  obtain ⟨hx, hb, hml, hown, hts, hK, hN, hA, hfr, hlo, hce, hsl, rfl, rfl, rfl, rfl⟩ := C
  intro H locs ls hP hD hS hv
  exact va_alen hx hb hK hP q0 t0 ha ht hv0 hdg (kk H locs ls hP hD hS hv)
def cpb (sp dp n : Int32) (n0 n1 : Nat) : Bool := decide (¬ sp < 0) && (decide (¬ dp < 0) && (decide (¬ n < 0) && (decide (sp.toNatClampNeg + n.toNatClampNeg ≤ n0) && decide (dp.toNatClampNeg + n.toNatClampNeg ≤ n1))))
theorem cpb_e {sp dp n : Int32} {n0 n1 : Nat} (h : cpb sp dp n n0 n1 = true) : ¬ sp < 0 ∧ ¬ dp < 0 ∧ ¬ n < 0 ∧ sp.toNatClampNeg + n.toNatClampNeg ≤ n0 ∧ dp.toNatClampNeg + n.toNatClampNeg ≤ n1 := by
  unfold cpb at h
  rw [Bool.and_eq_true, Bool.and_eq_true, Bool.and_eq_true, Bool.and_eq_true] at h
  exact ⟨of_decide_eq_true h.1, of_decide_eq_true h.2.1, of_decide_eq_true h.2.2.1, of_decide_eq_true h.2.2.2.1, of_decide_eq_true h.2.2.2.2⟩
theorem xw_copy (C : tj_C Γ l0 D0 cls0 nL0 cc own fr lo Ts tys NL) {index : Nat} (hlink : Cond.methodLink own index arraycopyName ∈ Ts) (hnat : Cond.native arraycopyName ∈ Ts) (hstat : Cond.static arraycopyName ∈ Ts) (hini : Cond.initialized "java/lang/System" ∈ Ts) (q0 q1 t0 t1 : Nat) {a0 a n0 n1 : Nat} {c0 c1 : ClassId} {f g : Nat → Int32} (ha0 : (cw σ)[q0]? = some (a0, .inl (c0, n0, .inl f))) (ha1 : (cw σ)[q1]? = some (a, .inl (c1, n1, .inl g))) (ht0 : tys[t0]? = some (c0, .int)) (ht1 : tys[t1]? = some (c1, .int)) {sp dp n : Int32} (hb0 : cpb sp dp n n0 n1 = true) (hf0 : 1 ≤ fr) (hl0 : (st.map fun v => v.category).sum + (nativeFrameWords "java/lang/System" "arraycopy" 5 + 11) ≤ lo) (hdg : decode cc pc = .ok (.invokestatic index, 3)) {σ1 : S} (hσ : (cw σ).set q1 (a, .inl (c1, n1, .inl (va_cpy f g sp.toNatClampNeg dp.toNatClampNeg n.toNatClampNeg))) = cw σ1) (kk : tj_W Γ cw σ1 lv (pc + 3) (st)) : tj_W Γ cw σ lv pc (.int n :: .int dp :: .ref a :: .int sp :: .ref a0 :: st) := by
  obtain ⟨p, l, e, R, s, m, args, below, meth, c, A, H0, cells, slots, Q, D, cls, nL⟩ := Γ
  obtain ⟨hx, hb, hml, hown, hts, hK, hN, hA, hfr, hlo, hce, hsl, rfl, rfl, rfl, rfl⟩ := C
  intro H locs ls hP hD hS hv
  obtain ⟨h1, h2, h3, h4, h5⟩ := cpb_e hb0
  exact va_copyi hx hb (hml.trans hv.1.symm) hown (hts _ hlink) (hts _ hnat) (hts _ hstat) (hts _ hini) hK hP hD hS q0 q1 t0 t1 ha0 ha1 ht0 ht1 rfl h1 h2 h3 h4 h5 (fun _ _ => rfl) (Nat.le_trans hf0 hfr) (Nat.le_trans hl0 hlo) hdg (fun H1 locs1 hP1 hD1 hS1 => kk H1 locs1 ls (hσ ▸ hP1) (hσ ▸ hD1) hS1 hv)
theorem xw_min (C : tj_C Γ l0 D0 cls0 nL0 cc own fr lo Ts tys NL) {index : Nat} (hlink : Cond.methodLink own index Lib.Math.min.name ∈ Ts) (hstat : Cond.static Lib.Math.min.name ∈ Ts) (hini : Cond.initialized "java/lang/Math" ∈ Ts) (hcode : Cond.code Lib.Math.min.name Lib.Math.min.code 2 (some .int) ∈ Ts) {x y : Int32} (hf0 : 1 ≤ fr) (hl0 : (st.map fun v => v.category).sum + 13 ≤ lo) (hdg : decode cc pc = .ok (.invokestatic index, 3)) (kk : tj_W Γ cw σ lv (pc + 3) (.int (if y < x then y else x) :: st)) : tj_W Γ cw σ lv pc (.int y :: .int x :: st) := by
  obtain ⟨p, l, e, R, s, m, args, below, meth, c, A, H0, cells, slots, Q, D, cls, nL⟩ := Γ
  obtain ⟨hx, hb, hml, hown, hts, hK, hN, hA, hfr, hlo, hce, hsl, rfl, rfl, rfl, rfl⟩ := C
  intro H locs ls hP hD hS hv
  exact va_mmin hx hb (hml.trans hv.1.symm) hown (hts _ hlink) (hts _ hstat) (hts _ hini) (hts _ hcode) (Nat.le_trans hf0 hfr) (Nat.le_trans hl0 hlo) hce hsl hdg (kk H locs ls hP hD hS hv)
end tjRows
def tj_Pre {S : Type} (D : va_G) (cls : List vw_C) (tys : List (ClassId × FieldType)) (NL : List Cond) (cw : S → va_W) (σ : S) (sz : Nat) (U : State) : Prop := U.heap.size = sz ∧ va_P D cls (cw σ) U.heap ∧ va_K D cls tys U ∧ va_D (fun _ => True) (cw σ) ∧ ∀ w ∈ NL, va_Nw w U
def tj_Post {S : Type} (D : va_G) (cls : List vw_C) (cw : S → va_W) (A : Nat → Prop) (u : S) (t : State) : Prop := va_P D cls (cw u) t.heap ∧ va_D A (cw u)
def tj_Mi {S : Type} (l : Launch) (D : va_G) (cls : List vw_C) (tys : List (ClassId × FieldType)) (NL Ts : List Cond) (cw : S → va_W) (y : MethodName) (cc : ByteArray) (maxL : Nat) (rt : FieldType) (fr lo : Nat) (as : List Value) (σ : S) (r0 : Int32) (σ0 : S) : Prop :=
  ∀ sz : Nat, Met l y (Cond.code y cc maxL (some rt) :: Ts) { frames := fr, cells := 0, slots := 0, locals := lo } (va_Pc as (tj_Pre D cls tys NL cw σ sz)) (va_Qi (fun (r : Int32) (u : S) => r = r0 ∧ u = σ0) (tj_Post D cls cw (va_A (cw σ) sz)) (va_A (cw σ) sz)) 0 0 (va_A (cw σ) sz)
def tj_Mv {S : Type} (l : Launch) (D : va_G) (cls : List vw_C) (tys : List (ClassId × FieldType)) (NL Ts : List Cond) (cw : S → va_W) (y : MethodName) (cc : ByteArray) (maxL : Nat) (fr lo : Nat) (as : List Value) (σ : S) (σ0 : S) : Prop :=
  ∀ sz : Nat, Met l y (Cond.code y cc maxL none :: Ts) { frames := fr, cells := 0, slots := 0, locals := lo } (va_Pc as (tj_Pre D cls tys NL cw σ sz)) (va_Qv (fun (u : S) => u = σ0) (tj_Post D cls cw (va_A (cw σ) sz)) (va_A (cw σ) sz)) 0 0 (va_A (cw σ) sz)
def tj_gT (Ts : List Cond) : Prop := ∀ w ∈ Ts, (w.onTables && w.keeps) = true ∨ ∃ ty, w = .arrayClass ty
def tj_gN (NL : List Cond) : Prop := ∀ w ∈ NL, (∃ a i b n d h, w = Cond.fieldLinkNest a i b n d h) ∨ ∃ a i x h, w = Cond.methodLinkNest a i x h
theorem tj_good {Ts : List Cond} (hT : tj_gT Ts) {c : Cond} (h : c ∈ Ts) : GoodIn Ts (c :: Ts) := by
  intro w hw
  rcases List.mem_cons.mp hw with rfl | hw
  · exact ⟨h, hT _ h⟩
  · exact ⟨hw, hT _ hw⟩
theorem tj_nwarm {NL : List Cond} (hG : tj_gN NL) {s U : State} (hW : s.WarmedH U.vm) (h : ∀ w ∈ NL, va_Nw w s) : ∀ w ∈ NL, va_Nw w U := by
  intro w hw
  have h1 := h w hw
  rcases hG w hw with ⟨a, i, b, n, d, g, rfl⟩ | ⟨a, i, x, g, rfl⟩
  · exact va_Nw.warmF hW h1
  · exact va_Nw.warmM hW h1
theorem tj_blind {S : Type} {D : va_G} {cls : List vw_C} {tys : List (ClassId × FieldType)} {NL : List Cond} (hG : tj_gN NL) {cw : S → va_W} {as : List Value} {σ : S} {sz : Nat} : FrameBlind (va_Pc as (tj_Pre D cls tys NL cw σ sz)) := by
  intro a U g mk q
  obtain ⟨q0, q1, qP, qK, qD, qN⟩ := q
  refine ⟨q0, q1, qP, va_K.moved (u := U) (U := U.calling g mk a) (Vm.Alike.refl U.vm) qK, qD, fun w hw => ?_⟩
  have h1 := qN w hw
  rcases hG w hw with ⟨a, i, b, n, d, g, rfl⟩ | ⟨a, i, x, g, rfl⟩
  · exact va_tabs (u := U) rfl rfl h1
  · exact va_tabs (u := U) rfl rfl h1
theorem tj_start_i {S : Type} {l : Launch} {D : va_G} {cls : List vw_C} {tys : List (ClassId × FieldType)} {NL Ts : List Cond} {cw : S → va_W} {y : MethodName} {cc : ByteArray} {maxL : Nat} {rt : FieldType} {fr lo : Nat} {as : List Value} {σ : S} {r0 : Int32} {σ0 : S} (hy : plainName y.cls = true) (hln : (lg_sl as).length ≤ maxL)
    (body : ∀ Γ : tj_G, tj_C Γ l D cls maxL cc y.cls fr lo Ts tys NL → (∀ (lv : List (Nat × Value)) (pc : Nat) (v : Int32) (s1 : S), some (v, s1) = some (r0, σ0) → decode cc pc = .ok (.ireturn, 1) → narrow rt (.int v) = .int v → tj_W Γ cw s1 lv pc [.int v]) → tj_W Γ cw σ (lv_args 0 as) 0 []) : tj_Mi l D cls tys NL Ts cw y cc maxL rt fr lo as σ r0 σ0 := by
  intro sz
  refine Met.ofW (cc := cc) (maxL := maxL) (ret := some rt) hy rfl ?_
  intro p e s m args below meth c s₁ B hml hv
  obtain ⟨rfl, hsz, hP, hK, hD0, hN⟩ := hv
  have hts := atoms_spec (ws := Cond.code y cc maxL (some rt) :: Ts) B.pre
  have hown : s.vm.findClass y.cls = some m.cls := findClass_of_methodNamed B.named
  have hlocks := B.notSynchronized
  subst hsz
  have hD := hD0.self (sz := s.heap.size)
  rw [lg_entry_eq]
  refine body (p, l, e, _, s, m, as.toArray, below, meth, c, va_A (cw σ) s.heap.size, s.heap, 0, 0, _, D, cls, maxL) ⟨B.exec, B.bytes, hml, hown, fun w hw => hts w (List.mem_cons_of_mem _ hw), hK, hN, fun q h => Or.inr h, Nat.le_refl _, Nat.le_refl _, Nat.zero_le _, Nat.zero_le _, rfl, rfl, rfl, rfl⟩ ?_ s.heap [] _ hP hD va_S.rf (lv_entry as hln)
  intro lv pc v s1 hvs hdg hn H locs ls hP hD hS hv
  cases hvs
  exact W.zret B.exec B.bytes B.returns hn (fun t ht hW => ⟨⟨r0, σ0, rfl, ⟨rfl, rfl⟩, by rw [ht]; exact hP, hD⟩, hS.F ht⟩) hS.2.2 hdg
theorem tj_start_v {S : Type} {l : Launch} {D : va_G} {cls : List vw_C} {tys : List (ClassId × FieldType)} {NL Ts : List Cond} {cw : S → va_W} {y : MethodName} {cc : ByteArray} {maxL : Nat} {fr lo : Nat} {as : List Value} {σ : S} {σ0 : S} (hy : plainName y.cls = true) (hln : (lg_sl as).length ≤ maxL)
    (body : ∀ Γ : tj_G, tj_C Γ l D cls maxL cc y.cls fr lo Ts tys NL → (∀ (lv : List (Nat × Value)) (pc : Nat) (s1 : S), some s1 = some σ0 → decode cc pc = .ok (.return_, 1) → tj_W Γ cw s1 lv pc []) → tj_W Γ cw σ (lv_args 0 as) 0 []) : tj_Mv l D cls tys NL Ts cw y cc maxL fr lo as σ σ0 := by
  intro sz
  refine Met.ofW (cc := cc) (maxL := maxL) (ret := none) hy rfl ?_
  intro p e s m args below meth c s₁ B hml hv
  obtain ⟨rfl, hsz, hP, hK, hD0, hN⟩ := hv
  have hts := atoms_spec (ws := Cond.code y cc maxL none :: Ts) B.pre
  have hown : s.vm.findClass y.cls = some m.cls := findClass_of_methodNamed B.named
  have hlocks := B.notSynchronized
  subst hsz
  have hD := hD0.self (sz := s.heap.size)
  rw [lg_entry_eq]
  refine body (p, l, e, _, s, m, as.toArray, below, meth, c, va_A (cw σ) s.heap.size, s.heap, 0, 0, _, D, cls, maxL) ⟨B.exec, B.bytes, hml, hown, fun w hw => hts w (List.mem_cons_of_mem _ hw), hK, hN, fun q h => Or.inr h, Nat.le_refl _, Nat.le_refl _, Nat.zero_le _, Nat.zero_le _, rfl, rfl, rfl, rfl⟩ ?_ s.heap [] _ hP hD va_S.rf (lv_entry as hln)
  intro lv pc s1 hvs hdg H locs ls hP hD hS hv
  cases hvs
  exact W.vret B.exec B.bytes B.returns (fun t ht hW => ⟨⟨σ0, rfl, rfl, by rw [ht]; exact hP, hD⟩, hS.F ht⟩) hS.2.2 hdg
section tjCalls
variable {Γ : tj_G} {l0 : Launch} {D0 : va_G} {cls0 : List vw_C} {nL0 : Nat} {cc : ByteArray} {own : String} {fr lo : Nat} {Ts : List Cond} {tys : List (ClassId × FieldType)} {NL : List Cond}
variable {S : Type} {cw : S → va_W} {σ : S} {lv : List (Nat × Value)} {pc : Nat} {st : List Value}
theorem xw_callV_i (C : tj_C Γ l0 D0 cls0 nL0 cc own fr lo Ts tys NL) (hT : tj_gT Ts) (hG : tj_gN NL) {y : MethodName} {bytes : ByteArray} {maxL n index f1 l1 : Nat} {rt : FieldType} {b ci : Nat} {fs : List Value} {qc : vw_C} {As rest : List Value} {r : Int32} {σ1 : S} (hM : tj_Mi l0 D0 cls0 tys NL Ts cw y bytes maxL rt f1 l1 (.ref b :: As) σ r σ1) (hcode : Cond.code y bytes maxL (some rt) ∈ Ts) (hlink : Cond.methodLink own index y ∈ Ts) (hini : Cond.initialized y.cls ∈ Ts) (hinst : Cond.instanceMethod y ∈ Ts) (hsel : Cond.selects y.cls y y ∈ Ts) (q0 : Nat) (he : (cw σ)[q0]? = some (b, .inr (ci, fs))) (hc : cls0[ci]? = some qc) (hq : qc.1 = y.cls) (hd : y.cls ≠ "java/lang/invoke/MethodHandle" ∧ y.cls ≠ "java/lang/invoke/VarHandle" ∧ (parseMethodDescriptor y.desc).map (fun d => d.parameters.length) = some n) (hR : f1 + 1 ≤ fr ∧ 8 + (maxL + 11) + l1 ≤ lo) (hn : As.length = n) (hst : st = As.reverse ++ .ref b :: rest) (hr0 : (rest.map fun v => v.category).sum ≤ 8) (hdg : decode cc pc = .ok (.invokevirtual index, 3)) (kk : tj_W Γ cw σ1 lv (pc + 3) (.int r :: rest)) : tj_W Γ cw σ lv pc st := by
  obtain ⟨p, l, e, R, s, m, args, below, meth, c, A, H0, cells, slots, Q, D, cls, nL⟩ := Γ
  obtain ⟨hx, hb, hml, hown, hts, hK, hN, hA, hfr, hlo, hce, hsl, rfl, rfl, rfl, rfl⟩ := C
  intro H locs ls hP hD hS hv
  have hFc : ∀ q, va_A (cw σ) H.size q → A q := by
    rintro q (⟨k, e1, h⟩ | h)
    · exact hD.2 k (q, e1) h
    · exact hA q (Nat.le_trans hS.1 h)
  have hrec := va_recv hK hP hc he
  rw [hq] at hrec
  subst hst
  refine va_calli (va_runV (C := y.cls) (As := As) (rest := rest) ⟨hx, hb, hml, hown, hts⟩ (hM H.size) ⟨callB_of n hts (tj_good hT hcode) rfl rfl rfl (hts _ hini) (hts _ hlink) hd ⟨Nat.le_trans hR.1 hfr, Nat.le_trans hR.2 hlo⟩, hts _ hinst, hts _ hsel⟩ ⟨tj_blind hG, hrec, fun U hU hW => ⟨rfl, by rw [hU], by rw [hU]; exact hP, va_K.moved hW.alike hK, hD.weaken (fun _ _ _ _ => trivial), tj_nwarm hG hW hN⟩⟩ rfl hn hv.1 rfl (lv_room hr0) hdg ⟨hce, hsl⟩) hS (fun q _ h => hFc q h) hFc (fun r2 u t H1 locs1 ht hvm hpost hB hz hk hS1 => ?_)
  obtain ⟨rfl, rfl⟩ := hpost
  exact kk H1 locs1 ls (ht ▸ hB.1) (hB.2.weaken (fun _ q _ h => hFc q.1 h)) hS1 hv
theorem xw_callS_i (C : tj_C Γ l0 D0 cls0 nL0 cc own fr lo Ts tys NL) (hT : tj_gT Ts) (hG : tj_gN NL) {y : MethodName} {bytes : ByteArray} {maxL n index f1 l1 : Nat} {rt : FieldType} {As rest : List Value} {r : Int32} {σ1 : S} (hM : tj_Mi l0 D0 cls0 tys NL Ts cw y bytes maxL rt f1 l1 (As) σ r σ1) (hcode : Cond.code y bytes maxL (some rt) ∈ Ts) (hlink : Cond.methodLink own index y ∈ Ts) (hini : Cond.initialized y.cls ∈ Ts) (hstat : Cond.static y ∈ Ts) (hd : y.cls ≠ "java/lang/invoke/MethodHandle" ∧ y.cls ≠ "java/lang/invoke/VarHandle" ∧ (parseMethodDescriptor y.desc).map (fun d => d.parameters.length) = some n) (hR : f1 + 1 ≤ fr ∧ 8 + (maxL + 11) + l1 ≤ lo) (hn : As.length = n) (hst : st = As.reverse ++ rest) (hr0 : (rest.map fun v => v.category).sum ≤ 8) (hdg : decode cc pc = .ok (.invokestatic index, 3)) (kk : tj_W Γ cw σ1 lv (pc + 3) (.int r :: rest)) : tj_W Γ cw σ lv pc st := by
  obtain ⟨p, l, e, R, s, m, args, below, meth, c, A, H0, cells, slots, Q, D, cls, nL⟩ := Γ
  obtain ⟨hx, hb, hml, hown, hts, hK, hN, hA, hfr, hlo, hce, hsl, rfl, rfl, rfl, rfl⟩ := C
  intro H locs ls hP hD hS hv
  have hFc : ∀ q, va_A (cw σ) H.size q → A q := by
    rintro q (⟨k, e1, h⟩ | h)
    · exact hD.2 k (q, e1) h
    · exact hA q (Nat.le_trans hS.1 h)
  subst hst
  refine va_calli (va_runS (As := As) (rest := rest) ⟨hx, hb, hml, hown, hts⟩ (hM H.size) ⟨callB_of n hts (tj_good hT hcode) rfl rfl rfl (hts _ hini) (hts _ hlink) hd ⟨Nat.le_trans hR.1 hfr, Nat.le_trans hR.2 hlo⟩, hts _ hstat⟩ ⟨tj_blind hG, fun U hU hW => ⟨rfl, by rw [hU], by rw [hU]; exact hP, va_K.moved hW.alike hK, hD.weaken (fun _ _ _ _ => trivial), tj_nwarm hG hW hN⟩⟩ rfl hn hv.1 rfl (lv_room hr0) hdg ⟨hce, hsl⟩) hS (fun q _ h => hFc q h) hFc (fun r2 u t H1 locs1 ht hvm hpost hB hz hk hS1 => ?_)
  obtain ⟨rfl, rfl⟩ := hpost
  exact kk H1 locs1 ls (ht ▸ hB.1) (hB.2.weaken (fun _ q _ h => hFc q.1 h)) hS1 hv
theorem xw_callVN_i (C : tj_C Γ l0 D0 cls0 nL0 cc own fr lo Ts tys NL) (hT : tj_gT Ts) (hG : tj_gN NL) {y : MethodName} {bytes : ByteArray} {maxL n index f1 l1 : Nat} {rt : FieldType} {b ci : Nat} {fs : List Value} {qc : vw_C} {As rest : List Value} {r : Int32} {σ1 : S} (hM : tj_Mi l0 D0 cls0 tys NL Ts cw y bytes maxL rt f1 l1 (.ref b :: As) σ r σ1) (hcode : Cond.code y bytes maxL (some rt) ∈ Ts) (host : String) (hlink : Cond.methodLinkNest own index y host ∈ NL) (hini : Cond.initialized y.cls ∈ Ts) (hinst : Cond.instanceMethod y ∈ Ts) (hsel : Cond.selects y.cls y y ∈ Ts) (q0 : Nat) (he : (cw σ)[q0]? = some (b, .inr (ci, fs))) (hc : cls0[ci]? = some qc) (hq : qc.1 = y.cls) (hd : y.cls ≠ "java/lang/invoke/MethodHandle" ∧ y.cls ≠ "java/lang/invoke/VarHandle" ∧ (parseMethodDescriptor y.desc).map (fun d => d.parameters.length) = some n) (hR : f1 + 1 ≤ fr ∧ 8 + (maxL + 11) + l1 ≤ lo) (hn : As.length = n) (hst : st = As.reverse ++ .ref b :: rest) (hr0 : (rest.map fun v => v.category).sum ≤ 8) (hdg : decode cc pc = .ok (.invokevirtual index, 3)) (kk : tj_W Γ cw σ1 lv (pc + 3) (.int r :: rest)) : tj_W Γ cw σ lv pc st := by
  obtain ⟨p, l, e, R, s, m, args, below, meth, c, A, H0, cells, slots, Q, D, cls, nL⟩ := Γ
  obtain ⟨hx, hb, hml, hown, hts, hK, hN, hA, hfr, hlo, hce, hsl, rfl, rfl, rfl, rfl⟩ := C
  intro H locs ls hP hD hS hv
  have hFc : ∀ q, va_A (cw σ) H.size q → A q := by
    rintro q (⟨k, e1, h⟩ | h)
    · exact hD.2 k (q, e1) h
    · exact hA q (Nat.le_trans hS.1 h)
  have hrec := va_recv hK hP hc he
  rw [hq] at hrec
  subst hst
  refine va_calli (va_runVN (C := y.cls) (As := As) (rest := rest) ⟨hx, hb, hml, hown, hts⟩ (hM H.size) ⟨va_cnB n hts (tj_good hT hcode) rfl rfl rfl (hN _ hlink) (hts _ hini) hd ⟨Nat.le_trans hR.1 hfr, Nat.le_trans hR.2 hlo⟩, hts _ hinst, hts _ hsel⟩ ⟨tj_blind hG, hrec, fun U hU hW => ⟨rfl, by rw [hU], by rw [hU]; exact hP, va_K.moved hW.alike hK, hD.weaken (fun _ _ _ _ => trivial), tj_nwarm hG hW hN⟩⟩ rfl hn hv.1 rfl (lv_room hr0) hdg ⟨hce, hsl⟩) hS (fun q _ h => hFc q h) hFc (fun r2 u t H1 locs1 ht hvm hpost hB hz hk hS1 => ?_)
  obtain ⟨rfl, rfl⟩ := hpost
  exact kk H1 locs1 ls (ht ▸ hB.1) (hB.2.weaken (fun _ q _ h => hFc q.1 h)) hS1 hv
theorem xw_callSN_i (C : tj_C Γ l0 D0 cls0 nL0 cc own fr lo Ts tys NL) (hT : tj_gT Ts) (hG : tj_gN NL) {y : MethodName} {bytes : ByteArray} {maxL n index f1 l1 : Nat} {rt : FieldType} {As rest : List Value} {r : Int32} {σ1 : S} (hM : tj_Mi l0 D0 cls0 tys NL Ts cw y bytes maxL rt f1 l1 (As) σ r σ1) (hcode : Cond.code y bytes maxL (some rt) ∈ Ts) (host : String) (hlink : Cond.methodLinkNest own index y host ∈ NL) (hini : Cond.initialized y.cls ∈ Ts) (hstat : Cond.static y ∈ Ts) (hd : y.cls ≠ "java/lang/invoke/MethodHandle" ∧ y.cls ≠ "java/lang/invoke/VarHandle" ∧ (parseMethodDescriptor y.desc).map (fun d => d.parameters.length) = some n) (hR : f1 + 1 ≤ fr ∧ 8 + (maxL + 11) + l1 ≤ lo) (hn : As.length = n) (hst : st = As.reverse ++ rest) (hr0 : (rest.map fun v => v.category).sum ≤ 8) (hdg : decode cc pc = .ok (.invokestatic index, 3)) (kk : tj_W Γ cw σ1 lv (pc + 3) (.int r :: rest)) : tj_W Γ cw σ lv pc st := by
  obtain ⟨p, l, e, R, s, m, args, below, meth, c, A, H0, cells, slots, Q, D, cls, nL⟩ := Γ
  obtain ⟨hx, hb, hml, hown, hts, hK, hN, hA, hfr, hlo, hce, hsl, rfl, rfl, rfl, rfl⟩ := C
  intro H locs ls hP hD hS hv
  have hFc : ∀ q, va_A (cw σ) H.size q → A q := by
    rintro q (⟨k, e1, h⟩ | h)
    · exact hD.2 k (q, e1) h
    · exact hA q (Nat.le_trans hS.1 h)
  subst hst
  refine va_calli (va_runSN (As := As) (rest := rest) ⟨hx, hb, hml, hown, hts⟩ (hM H.size) ⟨va_cnB n hts (tj_good hT hcode) rfl rfl rfl (hN _ hlink) (hts _ hini) hd ⟨Nat.le_trans hR.1 hfr, Nat.le_trans hR.2 hlo⟩, hts _ hstat, trivial⟩ ⟨tj_blind hG, fun U hU hW => ⟨rfl, by rw [hU], by rw [hU]; exact hP, va_K.moved hW.alike hK, hD.weaken (fun _ _ _ _ => trivial), tj_nwarm hG hW hN⟩⟩ rfl hn hv.1 rfl (lv_room hr0) hdg ⟨hce, hsl⟩) hS (fun q _ h => hFc q h) hFc (fun r2 u t H1 locs1 ht hvm hpost hB hz hk hS1 => ?_)
  obtain ⟨rfl, rfl⟩ := hpost
  exact kk H1 locs1 ls (ht ▸ hB.1) (hB.2.weaken (fun _ q _ h => hFc q.1 h)) hS1 hv
theorem xw_callV_v (C : tj_C Γ l0 D0 cls0 nL0 cc own fr lo Ts tys NL) (hT : tj_gT Ts) (hG : tj_gN NL) {y : MethodName} {bytes : ByteArray} {maxL n index f1 l1 : Nat} {b ci : Nat} {fs : List Value} {qc : vw_C} {As rest : List Value} {σ1 : S} (hM : tj_Mv l0 D0 cls0 tys NL Ts cw y bytes maxL f1 l1 (.ref b :: As) σ σ1) (hcode : Cond.code y bytes maxL none ∈ Ts) (hlink : Cond.methodLink own index y ∈ Ts) (hini : Cond.initialized y.cls ∈ Ts) (hinst : Cond.instanceMethod y ∈ Ts) (hsel : Cond.selects y.cls y y ∈ Ts) (q0 : Nat) (he : (cw σ)[q0]? = some (b, .inr (ci, fs))) (hc : cls0[ci]? = some qc) (hq : qc.1 = y.cls) (hd : y.cls ≠ "java/lang/invoke/MethodHandle" ∧ y.cls ≠ "java/lang/invoke/VarHandle" ∧ (parseMethodDescriptor y.desc).map (fun d => d.parameters.length) = some n) (hR : f1 + 1 ≤ fr ∧ 8 + (maxL + 11) + l1 ≤ lo) (hn : As.length = n) (hst : st = As.reverse ++ .ref b :: rest) (hr0 : (rest.map fun v => v.category).sum ≤ 8) (hdg : decode cc pc = .ok (.invokevirtual index, 3)) (kk : tj_W Γ cw σ1 lv (pc + 3) (rest)) : tj_W Γ cw σ lv pc st := by
  obtain ⟨p, l, e, R, s, m, args, below, meth, c, A, H0, cells, slots, Q, D, cls, nL⟩ := Γ
  obtain ⟨hx, hb, hml, hown, hts, hK, hN, hA, hfr, hlo, hce, hsl, rfl, rfl, rfl, rfl⟩ := C
  intro H locs ls hP hD hS hv
  have hFc : ∀ q, va_A (cw σ) H.size q → A q := by
    rintro q (⟨k, e1, h⟩ | h)
    · exact hD.2 k (q, e1) h
    · exact hA q (Nat.le_trans hS.1 h)
  have hrec := va_recv hK hP hc he
  rw [hq] at hrec
  subst hst
  refine va_callv (va_runV (C := y.cls) (As := As) (rest := rest) ⟨hx, hb, hml, hown, hts⟩ (hM H.size) ⟨callB_of n hts (tj_good hT hcode) rfl rfl rfl (hts _ hini) (hts _ hlink) hd ⟨Nat.le_trans hR.1 hfr, Nat.le_trans hR.2 hlo⟩, hts _ hinst, hts _ hsel⟩ ⟨tj_blind hG, hrec, fun U hU hW => ⟨rfl, by rw [hU], by rw [hU]; exact hP, va_K.moved hW.alike hK, hD.weaken (fun _ _ _ _ => trivial), tj_nwarm hG hW hN⟩⟩ rfl hn hv.1 rfl (lv_room hr0) hdg ⟨hce, hsl⟩) hS (fun q _ h => hFc q h) hFc (fun u t H1 locs1 ht hvm hpost hB hz hk hS1 => ?_)
  subst hpost
  exact kk H1 locs1 ls (ht ▸ hB.1) (hB.2.weaken (fun _ q _ h => hFc q.1 h)) hS1 hv
theorem xw_callS_v (C : tj_C Γ l0 D0 cls0 nL0 cc own fr lo Ts tys NL) (hT : tj_gT Ts) (hG : tj_gN NL) {y : MethodName} {bytes : ByteArray} {maxL n index f1 l1 : Nat} {As rest : List Value} {σ1 : S} (hM : tj_Mv l0 D0 cls0 tys NL Ts cw y bytes maxL f1 l1 (As) σ σ1) (hcode : Cond.code y bytes maxL none ∈ Ts) (hlink : Cond.methodLink own index y ∈ Ts) (hini : Cond.initialized y.cls ∈ Ts) (hstat : Cond.static y ∈ Ts) (hd : y.cls ≠ "java/lang/invoke/MethodHandle" ∧ y.cls ≠ "java/lang/invoke/VarHandle" ∧ (parseMethodDescriptor y.desc).map (fun d => d.parameters.length) = some n) (hR : f1 + 1 ≤ fr ∧ 8 + (maxL + 11) + l1 ≤ lo) (hn : As.length = n) (hst : st = As.reverse ++ rest) (hr0 : (rest.map fun v => v.category).sum ≤ 8) (hdg : decode cc pc = .ok (.invokestatic index, 3)) (kk : tj_W Γ cw σ1 lv (pc + 3) (rest)) : tj_W Γ cw σ lv pc st := by
  obtain ⟨p, l, e, R, s, m, args, below, meth, c, A, H0, cells, slots, Q, D, cls, nL⟩ := Γ
  obtain ⟨hx, hb, hml, hown, hts, hK, hN, hA, hfr, hlo, hce, hsl, rfl, rfl, rfl, rfl⟩ := C
  intro H locs ls hP hD hS hv
  have hFc : ∀ q, va_A (cw σ) H.size q → A q := by
    rintro q (⟨k, e1, h⟩ | h)
    · exact hD.2 k (q, e1) h
    · exact hA q (Nat.le_trans hS.1 h)
  subst hst
  refine va_callv (va_runS (As := As) (rest := rest) ⟨hx, hb, hml, hown, hts⟩ (hM H.size) ⟨callB_of n hts (tj_good hT hcode) rfl rfl rfl (hts _ hini) (hts _ hlink) hd ⟨Nat.le_trans hR.1 hfr, Nat.le_trans hR.2 hlo⟩, hts _ hstat⟩ ⟨tj_blind hG, fun U hU hW => ⟨rfl, by rw [hU], by rw [hU]; exact hP, va_K.moved hW.alike hK, hD.weaken (fun _ _ _ _ => trivial), tj_nwarm hG hW hN⟩⟩ rfl hn hv.1 rfl (lv_room hr0) hdg ⟨hce, hsl⟩) hS (fun q _ h => hFc q h) hFc (fun u t H1 locs1 ht hvm hpost hB hz hk hS1 => ?_)
  subst hpost
  exact kk H1 locs1 ls (ht ▸ hB.1) (hB.2.weaken (fun _ q _ h => hFc q.1 h)) hS1 hv
theorem xw_callVN_v (C : tj_C Γ l0 D0 cls0 nL0 cc own fr lo Ts tys NL) (hT : tj_gT Ts) (hG : tj_gN NL) {y : MethodName} {bytes : ByteArray} {maxL n index f1 l1 : Nat} {b ci : Nat} {fs : List Value} {qc : vw_C} {As rest : List Value} {σ1 : S} (hM : tj_Mv l0 D0 cls0 tys NL Ts cw y bytes maxL f1 l1 (.ref b :: As) σ σ1) (hcode : Cond.code y bytes maxL none ∈ Ts) (host : String) (hlink : Cond.methodLinkNest own index y host ∈ NL) (hini : Cond.initialized y.cls ∈ Ts) (hinst : Cond.instanceMethod y ∈ Ts) (hsel : Cond.selects y.cls y y ∈ Ts) (q0 : Nat) (he : (cw σ)[q0]? = some (b, .inr (ci, fs))) (hc : cls0[ci]? = some qc) (hq : qc.1 = y.cls) (hd : y.cls ≠ "java/lang/invoke/MethodHandle" ∧ y.cls ≠ "java/lang/invoke/VarHandle" ∧ (parseMethodDescriptor y.desc).map (fun d => d.parameters.length) = some n) (hR : f1 + 1 ≤ fr ∧ 8 + (maxL + 11) + l1 ≤ lo) (hn : As.length = n) (hst : st = As.reverse ++ .ref b :: rest) (hr0 : (rest.map fun v => v.category).sum ≤ 8) (hdg : decode cc pc = .ok (.invokevirtual index, 3)) (kk : tj_W Γ cw σ1 lv (pc + 3) (rest)) : tj_W Γ cw σ lv pc st := by
  obtain ⟨p, l, e, R, s, m, args, below, meth, c, A, H0, cells, slots, Q, D, cls, nL⟩ := Γ
  obtain ⟨hx, hb, hml, hown, hts, hK, hN, hA, hfr, hlo, hce, hsl, rfl, rfl, rfl, rfl⟩ := C
  intro H locs ls hP hD hS hv
  have hFc : ∀ q, va_A (cw σ) H.size q → A q := by
    rintro q (⟨k, e1, h⟩ | h)
    · exact hD.2 k (q, e1) h
    · exact hA q (Nat.le_trans hS.1 h)
  have hrec := va_recv hK hP hc he
  rw [hq] at hrec
  subst hst
  refine va_callv (va_runVN (C := y.cls) (As := As) (rest := rest) ⟨hx, hb, hml, hown, hts⟩ (hM H.size) ⟨va_cnB n hts (tj_good hT hcode) rfl rfl rfl (hN _ hlink) (hts _ hini) hd ⟨Nat.le_trans hR.1 hfr, Nat.le_trans hR.2 hlo⟩, hts _ hinst, hts _ hsel⟩ ⟨tj_blind hG, hrec, fun U hU hW => ⟨rfl, by rw [hU], by rw [hU]; exact hP, va_K.moved hW.alike hK, hD.weaken (fun _ _ _ _ => trivial), tj_nwarm hG hW hN⟩⟩ rfl hn hv.1 rfl (lv_room hr0) hdg ⟨hce, hsl⟩) hS (fun q _ h => hFc q h) hFc (fun u t H1 locs1 ht hvm hpost hB hz hk hS1 => ?_)
  subst hpost
  exact kk H1 locs1 ls (ht ▸ hB.1) (hB.2.weaken (fun _ q _ h => hFc q.1 h)) hS1 hv
theorem xw_callSN_v (C : tj_C Γ l0 D0 cls0 nL0 cc own fr lo Ts tys NL) (hT : tj_gT Ts) (hG : tj_gN NL) {y : MethodName} {bytes : ByteArray} {maxL n index f1 l1 : Nat} {As rest : List Value} {σ1 : S} (hM : tj_Mv l0 D0 cls0 tys NL Ts cw y bytes maxL f1 l1 (As) σ σ1) (hcode : Cond.code y bytes maxL none ∈ Ts) (host : String) (hlink : Cond.methodLinkNest own index y host ∈ NL) (hini : Cond.initialized y.cls ∈ Ts) (hstat : Cond.static y ∈ Ts) (hd : y.cls ≠ "java/lang/invoke/MethodHandle" ∧ y.cls ≠ "java/lang/invoke/VarHandle" ∧ (parseMethodDescriptor y.desc).map (fun d => d.parameters.length) = some n) (hR : f1 + 1 ≤ fr ∧ 8 + (maxL + 11) + l1 ≤ lo) (hn : As.length = n) (hst : st = As.reverse ++ rest) (hr0 : (rest.map fun v => v.category).sum ≤ 8) (hdg : decode cc pc = .ok (.invokestatic index, 3)) (kk : tj_W Γ cw σ1 lv (pc + 3) (rest)) : tj_W Γ cw σ lv pc st := by
  obtain ⟨p, l, e, R, s, m, args, below, meth, c, A, H0, cells, slots, Q, D, cls, nL⟩ := Γ
  obtain ⟨hx, hb, hml, hown, hts, hK, hN, hA, hfr, hlo, hce, hsl, rfl, rfl, rfl, rfl⟩ := C
  intro H locs ls hP hD hS hv
  have hFc : ∀ q, va_A (cw σ) H.size q → A q := by
    rintro q (⟨k, e1, h⟩ | h)
    · exact hD.2 k (q, e1) h
    · exact hA q (Nat.le_trans hS.1 h)
  subst hst
  refine va_callv (va_runSN (As := As) (rest := rest) ⟨hx, hb, hml, hown, hts⟩ (hM H.size) ⟨va_cnB n hts (tj_good hT hcode) rfl rfl rfl (hN _ hlink) (hts _ hini) hd ⟨Nat.le_trans hR.1 hfr, Nat.le_trans hR.2 hlo⟩, hts _ hstat, trivial⟩ ⟨tj_blind hG, fun U hU hW => ⟨rfl, by rw [hU], by rw [hU]; exact hP, va_K.moved hW.alike hK, hD.weaken (fun _ _ _ _ => trivial), tj_nwarm hG hW hN⟩⟩ rfl hn hv.1 rfl (lv_room hr0) hdg ⟨hce, hsl⟩) hS (fun q _ h => hFc q h) hFc (fun u t H1 locs1 ht hvm hpost hB hz hk hS1 => ?_)
  subst hpost
  exact kk H1 locs1 ls (ht ▸ hB.1) (hB.2.weaken (fun _ q _ h => hFc q.1 h)) hS1 hv
end tjCalls
end
section
def F_X : u_T := fun k => match k with
  | 0 => ("ThreeModeJournal", "power", "LThreeModeJournal$Power;", true)
  | 1 => ("ThreeModeJournal", "disk", "LThreeModeJournal$Disk;", true)
  | 2 => ("ThreeModeJournal", "memory", "LThreeModeJournal$Memory;", true)
  | _ => ("ThreeModeJournal", "currentMode", "I", false)
def ty_X : Nat → FieldType := fun k => match k with
  | 0 => (.object "ThreeModeJournal$Power")
  | 1 => (.object "ThreeModeJournal$Disk")
  | 2 => (.object "ThreeModeJournal$Memory")
  | _ => .int
def F_Power : u_T := fun k => match k with
  | 0 => ("ThreeModeJournal$Power", "on", "Z", false)
  | 1 => ("ThreeModeJournal$Power", "fuseLeft", "I", false)
  | _ => ("ThreeModeJournal$Power", "writesMade", "I", false)
def ty_Power : Nat → FieldType := fun k => match k with
  | 0 => .boolean
  | 1 => .int
  | _ => .int
def F_Disk : u_T := fun k => match k with
  | 0 => ("ThreeModeJournal$Disk", "power", "LThreeModeJournal$Power;", true)
  | 1 => ("ThreeModeJournal$Disk", "homeWords", "[I", true)
  | _ => ("ThreeModeJournal$Disk", "log", "LThreeModeJournal$Log;", true)
def ty_Disk : Nat → FieldType := fun k => match k with
  | 0 => (.object "ThreeModeJournal$Power")
  | 1 => (.array .int)
  | _ => (.object "ThreeModeJournal$Log")
def F_Log : u_T := fun k => match k with
  | 0 => ("ThreeModeJournal$Log", "words", "[I", true)
  | 1 => ("ThreeModeJournal$Log", "starts", "[I", true)
  | 2 => ("ThreeModeJournal$Log", "sizes", "[I", true)
  | 3 => ("ThreeModeJournal$Log", "copied", "[I", true)
  | 4 => ("ThreeModeJournal$Log", "revoked", "[I", true)
  | 5 => ("ThreeModeJournal$Log", "oldest", "I", false)
  | 6 => ("ThreeModeJournal$Log", "count", "I", false)
  | _ => ("ThreeModeJournal$Log", "next", "I", false)
def ty_Log : Nat → FieldType := fun k => match k with
  | 0 => (.array .int)
  | 1 => (.array .int)
  | 2 => (.array .int)
  | 3 => (.array .int)
  | 4 => (.array .int)
  | 5 => .int
  | 6 => .int
  | _ => .int
def F_Mem : u_T := fun k => match k with
  | 0 => ("ThreeModeJournal$Memory", "words", "[I", true)
  | 1 => ("ThreeModeJournal$Memory", "dirtyOrder", "[I", true)
  | 2 => ("ThreeModeJournal$Memory", "dirtyCount", "I", false)
  | 3 => ("ThreeModeJournal$Memory", "joined", "I", false)
  | 4 => ("ThreeModeJournal$Memory", "revoked", "I", false)
  | _ => ("ThreeModeJournal$Memory", "committedUse", "I", false)
def ty_Mem : Nat → FieldType := fun k => match k with
  | 0 => (.array .int)
  | 1 => (.array .int)
  | 2 => .int
  | 3 => .int
  | 4 => .int
  | _ => .int
def F_Mod : u_T := fun k => match k with
  | 0 => ("ThreeModeJournalModel", "home", "[I", true)
  | 1 => ("ThreeModeJournalModel", "now", "[I", true)
  | 2 => ("ThreeModeJournalModel", "joined", "[Z", true)
  | 3 => ("ThreeModeJournalModel", "revoked", "[Z", true)
  | 4 => ("ThreeModeJournalModel", "stale", "[I", true)
  | 5 => ("ThreeModeJournalModel", "stales", "I", false)
  | 6 => ("ThreeModeJournalModel", "has", "[Z", true)
  | 7 => ("ThreeModeJournalModel", "gone", "[Z", true)
  | 8 => ("ThreeModeJournalModel", "words", "[I", true)
  | 9 => ("ThreeModeJournalModel", "size", "[I", true)
  | 10 => ("ThreeModeJournalModel", "count", "I", false)
  | 11 => ("ThreeModeJournalModel", "place", "I", false)
  | 12 => ("ThreeModeJournalModel", "up", "Z", false)
  | 13 => ("ThreeModeJournalModel", "kind", "I", false)
  | 14 => ("ThreeModeJournalModel", "left", "I", false)
  | 15 => ("ThreeModeJournalModel", "made", "I", false)
  | _ => ("ThreeModeJournalModel", "mapThen", "I", false)
def ty_Mod : Nat → FieldType := fun k => match k with
  | 0 => (.array .int)
  | 1 => (.array .int)
  | 2 => (.array .boolean)
  | 3 => (.array .boolean)
  | 4 => (.array .int)
  | 5 => .int
  | 6 => (.array .boolean)
  | 7 => (.array .boolean)
  | 8 => (.array .int)
  | 9 => (.array .int)
  | 10 => .int
  | 11 => .int
  | 12 => .boolean
  | 13 => .int
  | 14 => .int
  | 15 => .int
  | _ => .int
def tj_cls : List vw_C := [("ThreeModeJournal", F_X, 4), ("ThreeModeJournal$Power", F_Power, 3), ("ThreeModeJournal$Disk", F_Disk, 3), ("ThreeModeJournal$Log", F_Log, 8), ("ThreeModeJournal$Memory", F_Mem, 6), ("ThreeModeJournalModel", F_Mod, 17)]
def X_cw (K : Nat → ClassId) (q : Nat → Nat) (s : tj_S) : va_W := [(q 0, .inr (0, [.ref (q 1), .ref (q 2), .ref (q 10), .int (s 0 3)])),
  (q 1, .inr (1, [.int (s 1 0), .int (s 1 1), .int (s 1 2)])),
  (q 2, .inr (2, [.ref (q 1), .ref (q 3), .ref (q 4)])),
  (q 3, .inl (K 3, 92, .inl (s 3))),
  (q 4, .inr (3, [.ref (q 5), .ref (q 6), .ref (q 7), .ref (q 8), .ref (q 9), .int (s 4 5), .int (s 4 6), .int (s 4 7)])),
  (q 5, .inl (K 5, 96, .inl (s 5))),
  (q 6, .inl (K 6, 8, .inl (s 6))),
  (q 7, .inl (K 7, 8, .inl (s 7))),
  (q 8, .inl (K 8, 8, .inl (s 8))),
  (q 9, .inl (K 9, 8, .inl (s 9))),
  (q 10, .inr (4, [.ref (q 11), .ref (q 12), .int (s 10 2), .int (s 10 3), .int (s 10 4), .int (s 10 5)])),
  (q 11, .inl (K 11, 92, .inl (s 11))),
  (q 12, .inl (K 12, 16, .inl (s 12)))]
def X_tys (K : Nat → ClassId) : List (ClassId × FieldType) := [(K 3, .int), (K 5, .int), (K 6, .int), (K 7, .int), (K 8, .int), (K 9, .int), (K 11, .int), (K 12, .int)]
def M_cw (K : Nat → ClassId) (q : Nat → Nat) (s : tj_S) : va_W := [(q 0, .inr (5, [.ref (q 1), .ref (q 2), .ref (q 3), .ref (q 4), .ref (q 5), .int (s 0 5), .ref (q 6), .ref (q 7), .ref (q 8), .ref (q 9), .int (s 0 10), .int (s 0 11), .int (s 0 12), .int (s 0 13), .int (s 0 14), .int (s 0 15), .int (s 0 16)])),
  (q 1, .inl (K 1, 92, .inl (s 1))),
  (q 2, .inl (K 2, 92, .inl (s 2))),
  (q 3, .inl (K 3, 23, .inl (s 3))),
  (q 4, .inl (K 4, 23, .inl (s 4))),
  (q 5, .inl (K 5, 16, .inl (s 5))),
  (q 6, .inl (K 6, 184, .inl (s 6))),
  (q 7, .inl (K 7, 184, .inl (s 7))),
  (q 8, .inl (K 8, 736, .inl (s 8))),
  (q 9, .inl (K 9, 8, .inl (s 9)))]
def M_tys (K : Nat → ClassId) : List (ClassId × FieldType) := [(K 1, .int), (K 2, .int), (K 3, .boolean), (K 4, .boolean), (K 5, .int), (K 6, .boolean), (K 7, .boolean), (K 8, .int), (K 9, .int)]
def y_Disk_checkpointOldest : MethodName := ⟨"ThreeModeJournal$Disk", "checkpointOldest", "(I)Z"⟩
abbrev b_Disk_checkpointOldest : ByteArray := prog_2_method_4_code
def y_Disk_dropOldest : MethodName := ⟨"ThreeModeJournal$Disk", "dropOldest", "(I)Z"⟩
abbrev b_Disk_dropOldest : ByteArray := prog_2_method_7_code
def y_Disk_init : MethodName := ⟨"ThreeModeJournal$Disk", "<init>", "()V"⟩
abbrev b_Disk_init : ByteArray := prog_2_method_1_code
def y_Disk_recover : MethodName := ⟨"ThreeModeJournal$Disk", "recover", "()Z"⟩
abbrev b_Disk_recover : ByteArray := prog_2_method_5_code
def y_Disk_writeCopiesHome : MethodName := ⟨"ThreeModeJournal$Disk", "writeCopiesHome", "(II)Z"⟩
abbrev b_Disk_writeCopiesHome : ByteArray := prog_2_method_6_code
def y_Disk_writeHome : MethodName := ⟨"ThreeModeJournal$Disk", "writeHome", "(I[II)Z"⟩
abbrev b_Disk_writeHome : ByteArray := prog_2_method_2_code
def y_Disk_writeTransaction : MethodName := ⟨"ThreeModeJournal$Disk", "writeTransaction", "(ILThreeModeJournal$Memory;)Z"⟩
abbrev b_Disk_writeTransaction : ByteArray := prog_2_method_3_code
def y_Int_bitCount : MethodName := ⟨"java/lang/Integer", "bitCount", "(I)I"⟩
abbrev b_Int_bitCount : ByteArray := prog_8_method_49_code
def y_Log_append : MethodName := ⟨"ThreeModeJournal$Log", "append", "(ILThreeModeJournal$Memory;)V"⟩
abbrev b_Log_append : ByteArray := prog_3_method_8_code
def y_Log_copiesToRecover : MethodName := ⟨"ThreeModeJournal$Log", "copiesToRecover", "(I)I"⟩
abbrev b_Log_copiesToRecover : ByteArray := prog_3_method_5_code
def y_Log_copyOffset : MethodName := ⟨"ThreeModeJournal$Log", "copyOffset", "(II)I"⟩
abbrev b_Log_copyOffset : ByteArray := prog_3_method_7_code
def y_Log_forgetOldest : MethodName := ⟨"ThreeModeJournal$Log", "forgetOldest", "(I)V"⟩
abbrev b_Log_forgetOldest : ByteArray := prog_3_method_9_code
def y_Log_freePlaces : MethodName := ⟨"ThreeModeJournal$Log", "freePlaces", "()I"⟩
abbrev b_Log_freePlaces : ByteArray := prog_3_method_2_code
def y_Log_hasLiveCopy : MethodName := ⟨"ThreeModeJournal$Log", "hasLiveCopy", "(I)Z"⟩
abbrev b_Log_hasLiveCopy : ByteArray := prog_3_method_6_code
def y_Log_init : MethodName := ⟨"ThreeModeJournal$Log", "<init>", "()V"⟩
abbrev b_Log_init : ByteArray := prog_3_method_1_code
def y_Log_liveCopies : MethodName := ⟨"ThreeModeJournal$Log", "liveCopies", "(I)I"⟩
abbrev b_Log_liveCopies : ByteArray := prog_3_method_4_code
def y_Log_oldestInTheWayOf : MethodName := ⟨"ThreeModeJournal$Log", "oldestInTheWayOf", "(I)I"⟩
abbrev b_Log_oldestInTheWayOf : ByteArray := prog_3_method_3_code
def y_Log_slot : MethodName := ⟨"ThreeModeJournal$Log", "slot", "(I)I"⟩
abbrev b_Log_slot : ByteArray := prog_3_method_11_code
def y_Log_unionBehind : MethodName := ⟨"ThreeModeJournal$Log", "unionBehind", "(I[I)I"⟩
abbrev b_Log_unionBehind : ByteArray := prog_3_method_10_code
def y_Mem_blocksInUse : MethodName := ⟨"ThreeModeJournal$Memory", "blocksInUse", "()I"⟩
abbrev b_Mem_blocksInUse : ByteArray := prog_4_method_21_code
def y_Mem_clearWords : MethodName := ⟨"ThreeModeJournal$Memory", "clearWords", "(I)V"⟩
abbrev b_Mem_clearWords : ByteArray := prog_4_method_23_code
def y_Mem_dataBlock : MethodName := ⟨"ThreeModeJournal$Memory", "dataBlock", "(II)I"⟩
abbrev b_Mem_dataBlock : ByteArray := prog_4_method_8_code
def y_Mem_dirtyAt : MethodName := ⟨"ThreeModeJournal$Memory", "dirtyAt", "(I)I"⟩
abbrev b_Mem_dirtyAt : ByteArray := prog_4_method_17_code
def y_Mem_dirtyPlace : MethodName := ⟨"ThreeModeJournal$Memory", "dirtyPlace", "(I)I"⟩
abbrev b_Mem_dirtyPlace : ByteArray := prog_4_method_20_code
def y_Mem_fileLength : MethodName := ⟨"ThreeModeJournal$Memory", "fileLength", "(I)I"⟩
abbrev b_Mem_fileLength : ByteArray := prog_4_method_7_code
def y_Mem_freeBlock : MethodName := ⟨"ThreeModeJournal$Memory", "freeBlock", "(I)V"⟩
abbrev b_Mem_freeBlock : ByteArray := prog_4_method_16_code
def y_Mem_init : MethodName := ⟨"ThreeModeJournal$Memory", "<init>", "()V"⟩
abbrev b_Mem_init : ByteArray := prog_4_method_1_code
def y_Mem_isDataBlockOf : MethodName := ⟨"ThreeModeJournal$Memory", "isDataBlockOf", "(II)Z"⟩
abbrev b_Mem_isDataBlockOf : ByteArray := prog_4_method_10_code
def y_Mem_join : MethodName := ⟨"ThreeModeJournal$Memory", "join", "(I)V"⟩
abbrev b_Mem_join : ByteArray := prog_4_method_12_code
def y_Mem_load : MethodName := ⟨"ThreeModeJournal$Memory", "load", "([I)V"⟩
abbrev b_Mem_load : ByteArray := prog_4_method_2_code
def y_Mem_logBlocksNeeded : MethodName := ⟨"ThreeModeJournal$Memory", "logBlocksNeeded", "()I"⟩
abbrev b_Mem_logBlocksNeeded : ByteArray := prog_4_method_4_code
def y_Mem_makeClean : MethodName := ⟨"ThreeModeJournal$Memory", "makeClean", "(I)V"⟩
abbrev b_Mem_makeClean : ByteArray := prog_4_method_19_code
def y_Mem_makeDirty : MethodName := ⟨"ThreeModeJournal$Memory", "makeDirty", "(I)V"⟩
abbrev b_Mem_makeDirty : ByteArray := prog_4_method_18_code
def y_Mem_moveInode : MethodName := ⟨"ThreeModeJournal$Memory", "moveInode", "(II)V"⟩
abbrev b_Mem_moveInode : ByteArray := prog_4_method_11_code
def y_Mem_putDataBlock : MethodName := ⟨"ThreeModeJournal$Memory", "putDataBlock", "(III)V"⟩
abbrev b_Mem_putDataBlock : ByteArray := prog_4_method_9_code
def y_Mem_revoke : MethodName := ⟨"ThreeModeJournal$Memory", "revoke", "(I)V"⟩
abbrev b_Mem_revoke : ByteArray := prog_4_method_13_code
def y_Mem_setWord : MethodName := ⟨"ThreeModeJournal$Memory", "setWord", "(III)V"⟩
abbrev b_Mem_setWord : ByteArray := prog_4_method_6_code
def y_Mem_startTransaction : MethodName := ⟨"ThreeModeJournal$Memory", "startTransaction", "()V"⟩
abbrev b_Mem_startTransaction : ByteArray := prog_4_method_3_code
def y_Mem_takeBlock : MethodName := ⟨"ThreeModeJournal$Memory", "takeBlock", "()I"⟩
abbrev b_Mem_takeBlock : ByteArray := prog_4_method_15_code
def y_Mem_takeable : MethodName := ⟨"ThreeModeJournal$Memory", "takeable", "()I"⟩
abbrev b_Mem_takeable : ByteArray := prog_4_method_22_code
def y_Mem_takeableCount : MethodName := ⟨"ThreeModeJournal$Memory", "takeableCount", "()I"⟩
abbrev b_Mem_takeableCount : ByteArray := prog_4_method_14_code
def y_Mem_word : MethodName := ⟨"ThreeModeJournal$Memory", "word", "(II)I"⟩
abbrev b_Mem_word : ByteArray := prog_4_method_5_code
def y_Mod_bring : MethodName := ⟨"ThreeModeJournalModel", "bring", "(I)Z"⟩
abbrev b_Mod_bring : ByteArray := prog_7_method_4_code
def y_Mod_cell : MethodName := ⟨"ThreeModeJournalModel", "cell", "(II)I"⟩
abbrev b_Mod_cell : ByteArray := prog_7_method_17_code
def y_Mod_checkpoint : MethodName := ⟨"ThreeModeJournalModel", "checkpoint", "(I)I"⟩
abbrev b_Mod_checkpoint : ByteArray := prog_7_method_34_code
def y_Mod_clean : MethodName := ⟨"ThreeModeJournalModel", "clean", "(I)V"⟩
abbrev b_Mod_clean : ByteArray := prog_7_method_5_code
def y_Mod_commit : MethodName := ⟨"ThreeModeJournalModel", "commit", "()I"⟩
abbrev b_Mod_commit : ByteArray := prog_7_method_30_code
def y_Mod_crash : MethodName := ⟨"ThreeModeJournalModel", "crash", "()Z"⟩
abbrev b_Mod_crash : ByteArray := prog_7_method_36_code
def y_Mod_cut : MethodName := ⟨"ThreeModeJournalModel", "cut", "(II)Z"⟩
abbrev b_Mod_cut : ByteArray := prog_7_method_26_code
def y_Mod_dirty : MethodName := ⟨"ThreeModeJournalModel", "dirty", "()I"⟩
abbrev b_Mod_dirty : ByteArray := prog_7_method_43_code
def y_Mod_drop : MethodName := ⟨"ThreeModeJournalModel", "drop", "(I)V"⟩
abbrev b_Mod_drop : ByteArray := prog_7_method_10_code
def y_Mod_enter : MethodName := ⟨"ThreeModeJournalModel", "enter", "(I)V"⟩
abbrev b_Mod_enter : ByteArray := prog_7_method_14_code
def y_Mod_fail : MethodName := ⟨"ThreeModeJournalModel", "fail", "()V"⟩
abbrev b_Mod_fail : ByteArray := prog_7_method_3_code
def y_Mod_file : MethodName := ⟨"ThreeModeJournalModel", "file", "(I)Z"⟩
abbrev b_Mod_file : ByteArray := prog_7_method_16_code
def y_Mod_flush : MethodName := ⟨"ThreeModeJournalModel", "flush", "(I)I"⟩
abbrev b_Mod_flush : ByteArray := prog_7_method_33_code
def y_Mod_free : MethodName := ⟨"ThreeModeJournalModel", "free", "()I"⟩
abbrev b_Mod_free : ByteArray := prog_7_method_44_code
def y_Mod_fuse : MethodName := ⟨"ThreeModeJournalModel", "fuse", "(I)V"⟩
abbrev b_Mod_fuse : ByteArray := prog_7_method_35_code
def y_Mod_head : MethodName := ⟨"ThreeModeJournalModel", "head", "()I"⟩
abbrev b_Mod_head : ByteArray := prog_7_method_42_code
def y_Mod_home : MethodName := ⟨"ThreeModeJournalModel", "home", "(II)I"⟩
abbrev b_Mod_home : ByteArray := prog_7_method_39_code
def y_Mod_init : MethodName := ⟨"ThreeModeJournalModel", "<init>", "()V"⟩
abbrev b_Mod_init : ByteArray := prog_7_method_1_code
def y_Mod_isDirty : MethodName := ⟨"ThreeModeJournalModel", "isDirty", "(I)Z"⟩
abbrev b_Mod_isDirty : ByteArray := prog_7_method_6_code
def y_Mod_later : MethodName := ⟨"ThreeModeJournalModel", "later", "(IIZ)Z"⟩
abbrev b_Mod_later : ByteArray := prog_7_method_7_code
def y_Mod_length : MethodName := ⟨"ThreeModeJournalModel", "length", "(I)I"⟩
abbrev b_Mod_length : ByteArray := prog_7_method_29_code
def y_Mod_mode : MethodName := ⟨"ThreeModeJournalModel", "mode", "()I"⟩
abbrev b_Mod_mode : ByteArray := prog_7_method_38_code
def y_Mod_mount : MethodName := ⟨"ThreeModeJournalModel", "mount", "(I)I"⟩
abbrev b_Mod_mount : ByteArray := prog_7_method_37_code
def y_Mod_need : MethodName := ⟨"ThreeModeJournalModel", "need", "()I"⟩
abbrev b_Mod_need : ByteArray := prog_7_method_40_code
def y_Mod_needs : MethodName := ⟨"ThreeModeJournalModel", "needs", "()I"⟩
abbrev b_Mod_needs : ByteArray := prog_7_method_12_code
def y_Mod_open : MethodName := ⟨"ThreeModeJournalModel", "open", "(I)Z"⟩
abbrev b_Mod_open : ByteArray := prog_7_method_20_code
def y_Mod_opens : MethodName := ⟨"ThreeModeJournalModel", "opens", "()I"⟩
abbrev b_Mod_opens : ByteArray := prog_7_method_21_code
def y_Mod_owns : MethodName := ⟨"ThreeModeJournalModel", "owns", "(II)Z"⟩
abbrev b_Mod_owns : ByteArray := prog_7_method_32_code
def y_Mod_read : MethodName := ⟨"ThreeModeJournalModel", "read", "(II)I"⟩
abbrev b_Mod_read : ByteArray := prog_7_method_28_code
def y_Mod_ready : MethodName := ⟨"ThreeModeJournalModel", "ready", "()Z"⟩
abbrev b_Mod_ready : ByteArray := prog_7_method_15_code
def y_Mod_release : MethodName := ⟨"ThreeModeJournalModel", "release", "(IZ)V"⟩
abbrev b_Mod_release : ByteArray := prog_7_method_23_code
def y_Mod_remap : MethodName := ⟨"ThreeModeJournalModel", "remap", "()V"⟩
abbrev b_Mod_remap : ByteArray := prog_7_method_19_code
def y_Mod_rename : MethodName := ⟨"ThreeModeJournalModel", "rename", "(II)Z"⟩
abbrev b_Mod_rename : ByteArray := prog_7_method_27_code
def y_Mod_replay : MethodName := ⟨"ThreeModeJournalModel", "replay", "(IZ)Z"⟩
abbrev b_Mod_replay : ByteArray := prog_7_method_8_code
def y_Mod_retire : MethodName := ⟨"ThreeModeJournalModel", "retire", "(I)Z"⟩
abbrev b_Mod_retire : ByteArray := prog_7_method_9_code
def y_Mod_room : MethodName := ⟨"ThreeModeJournalModel", "room", "()I"⟩
abbrev b_Mod_room : ByteArray := prog_7_method_41_code
def y_Mod_seal : MethodName := ⟨"ThreeModeJournalModel", "seal", "()I"⟩
abbrev b_Mod_seal : ByteArray := prog_7_method_13_code
def y_Mod_shorten : MethodName := ⟨"ThreeModeJournalModel", "shorten", "(II)V"⟩
abbrev b_Mod_shorten : ByteArray := prog_7_method_24_code
def y_Mod_spend : MethodName := ⟨"ThreeModeJournalModel", "spend", "()Z"⟩
abbrev b_Mod_spend : ByteArray := prog_7_method_2_code
def y_Mod_sync : MethodName := ⟨"ThreeModeJournalModel", "sync", "(I)Z"⟩
abbrev b_Mod_sync : ByteArray := prog_7_method_31_code
def y_Mod_take : MethodName := ⟨"ThreeModeJournalModel", "take", "(I)I"⟩
abbrev b_Mod_take : ByteArray := prog_7_method_22_code
def y_Mod_used : MethodName := ⟨"ThreeModeJournalModel", "used", "(I)Z"⟩
abbrev b_Mod_used : ByteArray := prog_7_method_18_code
def y_Mod_vacant : MethodName := ⟨"ThreeModeJournalModel", "vacant", "()I"⟩
abbrev b_Mod_vacant : ByteArray := prog_7_method_11_code
def y_Mod_write : MethodName := ⟨"ThreeModeJournalModel", "write", "(III)Z"⟩
abbrev b_Mod_write : ByteArray := prog_7_method_25_code
def y_Mod_writes : MethodName := ⟨"ThreeModeJournalModel", "writes", "()I"⟩
abbrev b_Mod_writes : ByteArray := prog_7_method_45_code
def y_Power_init : MethodName := ⟨"ThreeModeJournal$Power", "<init>", "()V"⟩
abbrev b_Power_init : ByteArray := prog_5_method_1_code
def y_Power_makeWrite : MethodName := ⟨"ThreeModeJournal$Power", "makeWrite", "()Z"⟩
abbrev b_Power_makeWrite : ByteArray := prog_5_method_2_code
def y_X_addDataBlock : MethodName := ⟨"ThreeModeJournal", "addDataBlock", "(II)V"⟩
abbrev b_X_addDataBlock : ByteArray := prog_1_method_31_code
def y_X_blocksNaming : MethodName := ⟨"ThreeModeJournal", "blocksNaming", "(I)I"⟩
abbrev b_X_blocksNaming : ByteArray := prog_1_method_27_code
def y_X_blocksToTake : MethodName := ⟨"ThreeModeJournal", "blocksToTake", "(II)I"⟩
abbrev b_X_blocksToTake : ByteArray := prog_1_method_29_code
def y_X_checkpoint : MethodName := ⟨"ThreeModeJournal", "checkpoint", "(I)I"⟩
abbrev b_X_checkpoint : ByteArray := prog_1_method_10_code
def y_X_commit : MethodName := ⟨"ThreeModeJournal", "commit", "()I"⟩
abbrev b_X_commit : ByteArray := prog_1_method_7_code
def y_X_commitIfLarge : MethodName := ⟨"ThreeModeJournal", "commitIfLarge", "()Z"⟩
abbrev b_X_commitIfLarge : ByteArray := prog_1_method_35_code
def y_X_commitRunning : MethodName := ⟨"ThreeModeJournal", "commitRunning", "()I"⟩
abbrev b_X_commitRunning : ByteArray := prog_1_method_36_code
def y_X_crash : MethodName := ⟨"ThreeModeJournal", "crash", "()Z"⟩
abbrev b_X_crash : ByteArray := prog_1_method_12_code
def y_X_cut : MethodName := ⟨"ThreeModeJournal", "cut", "(II)Z"⟩
abbrev b_X_cut : ByteArray := prog_1_method_3_code
def y_X_dataBlocksFor : MethodName := ⟨"ThreeModeJournal", "dataBlocksFor", "(I)I"⟩
abbrev b_X_dataBlocksFor : ByteArray := prog_1_method_28_code
def y_X_dirty : MethodName := ⟨"ThreeModeJournal", "dirty", "()I"⟩
abbrev b_X_dirty : ByteArray := prog_1_method_19_code
def y_X_flush : MethodName := ⟨"ThreeModeJournal", "flush", "(I)I"⟩
abbrev b_X_flush : ByteArray := prog_1_method_9_code
def y_X_free : MethodName := ⟨"ThreeModeJournal", "free", "()I"⟩
abbrev b_X_free : ByteArray := prog_1_method_20_code
def y_X_freeIndex : MethodName := ⟨"ThreeModeJournal", "freeIndex", "(I)V"⟩
abbrev b_X_freeIndex : ByteArray := prog_1_method_34_code
def y_X_fuse : MethodName := ⟨"ThreeModeJournal", "fuse", "(I)V"⟩
abbrev b_X_fuse : ByteArray := prog_1_method_11_code
def y_X_growByOne : MethodName := ⟨"ThreeModeJournal", "growByOne", "(II)V"⟩
abbrev b_X_growByOne : ByteArray := prog_1_method_30_code
def y_X_hasBlock : MethodName := ⟨"ThreeModeJournal", "hasBlock", "(II)Z"⟩
abbrev b_X_hasBlock : ByteArray := prog_1_method_26_code
def y_X_head : MethodName := ⟨"ThreeModeJournal", "head", "()I"⟩
abbrev b_X_head : ByteArray := prog_1_method_18_code
def y_X_home : MethodName := ⟨"ThreeModeJournal", "home", "(II)I"⟩
abbrev b_X_home : ByteArray := prog_1_method_15_code
def y_X_init : MethodName := ⟨"ThreeModeJournal", "<init>", "()V"⟩
abbrev b_X_init : ByteArray := prog_1_method_1_code
def y_X_isBlock : MethodName := ⟨"ThreeModeJournal", "isBlock", "(I)Z"⟩
abbrev b_X_isBlock : ByteArray := prog_1_method_23_code
def y_X_isFile : MethodName := ⟨"ThreeModeJournal", "isFile", "(I)Z"⟩
abbrev b_X_isFile : ByteArray := prog_1_method_22_code
def y_X_isPoolBlock : MethodName := ⟨"ThreeModeJournal", "isPoolBlock", "(I)Z"⟩
abbrev b_X_isPoolBlock : ByteArray := prog_1_method_24_code
def y_X_isWord : MethodName := ⟨"ThreeModeJournal", "isWord", "(II)Z"⟩
abbrev b_X_isWord : ByteArray := prog_1_method_25_code
def y_X_length : MethodName := ⟨"ThreeModeJournal", "length", "(I)I"⟩
abbrev b_X_length : ByteArray := prog_1_method_6_code
def y_X_mode : MethodName := ⟨"ThreeModeJournal", "mode", "()I"⟩
abbrev b_X_mode : ByteArray := prog_1_method_14_code
def y_X_mount : MethodName := ⟨"ThreeModeJournal", "mount", "(I)I"⟩
abbrev b_X_mount : ByteArray := prog_1_method_13_code
def y_X_need : MethodName := ⟨"ThreeModeJournal", "need", "()I"⟩
abbrev b_X_need : ByteArray := prog_1_method_16_code
def y_X_read : MethodName := ⟨"ThreeModeJournal", "read", "(II)I"⟩
abbrev b_X_read : ByteArray := prog_1_method_5_code
def y_X_rename : MethodName := ⟨"ThreeModeJournal", "rename", "(II)Z"⟩
abbrev b_X_rename : ByteArray := prog_1_method_4_code
def y_X_room : MethodName := ⟨"ThreeModeJournal", "room", "()I"⟩
abbrev b_X_room : ByteArray := prog_1_method_17_code
def y_X_setDataWord : MethodName := ⟨"ThreeModeJournal", "setDataWord", "(III)V"⟩
abbrev b_X_setDataWord : ByteArray := prog_1_method_32_code
def y_X_shorten : MethodName := ⟨"ThreeModeJournal", "shorten", "(II)V"⟩
abbrev b_X_shorten : ByteArray := prog_1_method_33_code
def y_X_sync : MethodName := ⟨"ThreeModeJournal", "sync", "(I)Z"⟩
abbrev b_X_sync : ByteArray := prog_1_method_8_code
def y_X_write : MethodName := ⟨"ThreeModeJournal", "write", "(III)Z"⟩
abbrev b_X_write : ByteArray := prog_1_method_2_code
def y_X_writeDirtyHome : MethodName := ⟨"ThreeModeJournal", "writeDirtyHome", "(I)Z"⟩
abbrev b_X_writeDirtyHome : ByteArray := prog_1_method_39_code
def y_X_writeDirtyOfFile : MethodName := ⟨"ThreeModeJournal", "writeDirtyOfFile", "(I)Z"⟩
abbrev b_X_writeDirtyOfFile : ByteArray := prog_1_method_38_code
def y_X_writeFirstDirty : MethodName := ⟨"ThreeModeJournal", "writeFirstDirty", "(I)Z"⟩
abbrev b_X_writeFirstDirty : ByteArray := prog_1_method_37_code
def y_X_writes : MethodName := ⟨"ThreeModeJournal", "writes", "()I"⟩
abbrev b_X_writes : ByteArray := prog_1_method_21_code
end
section
def tj_isN : Cond → Bool
  | .fieldLinkNest .. => true
  | .methodLinkNest .. => true
  | _ => false
def tj_T : List Cond := lw_tbl.filter goodWord
def tj_N : List Cond := tables_1.filter tj_isN
theorem tj_Tg : tj_gT tj_T := fun w hw => good_of_word (List.mem_filter.mp hw).2
theorem tj_Ng : tj_gN tj_N := by
  intro w hw
  have h := (List.mem_filter.mp hw).2
  cases w <;> first | exact Or.inl ⟨_, _, _, _, _, _, rfl⟩ | exact Or.inr ⟨_, _, _, _, rfl⟩ | exact absurd h (by simp [tj_isN])
theorem tj_r0 {w : Cond} (i : Nat) (e : tables_1_1[i]? = some w) : w ∈ tables_1 := by
  have h : w ∈ tables_1_1 := List.mem_of_getElem? e
  exact List.mem_append_left _ h
theorem tj_r1 {w : Cond} (i : Nat) (e : tables_1_2[i]? = some w) : w ∈ tables_1 := by
  have h : w ∈ tables_1_2 := List.mem_of_getElem? e
  exact List.mem_append_right _ (List.mem_append_left _ h)
theorem tj_r2 {w : Cond} (i : Nat) (e : tables_1_3[i]? = some w) : w ∈ tables_1 := by
  have h : w ∈ tables_1_3 := List.mem_of_getElem? e
  exact List.mem_append_right _ (List.mem_append_right _ (h))
theorem tj_t {w : Cond} (h : w ∈ tables_1) (g : goodWord w = true) : w ∈ tj_T := List.mem_filter.mpr ⟨List.mem_append_right _ h, g⟩
theorem tj_n {w : Cond} (h : w ∈ tables_1) (g : tj_isN w = true) : w ∈ tj_N := List.mem_filter.mpr ⟨h, g⟩
theorem tj_s {w : Cond} (h : w ∈ k2_sels lw_privs) (g : goodWord w = true) : w ∈ tj_T := List.mem_filter.mpr ⟨List.mem_append_left _ h, g⟩
theorem T_0 : (Jvm.Cond.initialized "ThreeModeJournalLaw") ∈ tj_T := tj_t (tj_r0 0 (by rfl)) (by rfl)
theorem T_1 : (Jvm.Cond.initialized "ThreeModeJournal") ∈ tj_T := tj_t (tj_r0 1 (by rfl)) (by rfl)
theorem T_2 : (Jvm.Cond.initialized "ThreeModeJournal$Disk") ∈ tj_T := tj_t (tj_r0 2 (by rfl)) (by rfl)
theorem T_3 : (Jvm.Cond.initialized "ThreeModeJournal$Power") ∈ tj_T := tj_t (tj_r0 3 (by rfl)) (by rfl)
theorem T_4 : (Jvm.Cond.initialized "ThreeModeJournal$Log") ∈ tj_T := tj_t (tj_r0 4 (by rfl)) (by rfl)
theorem T_5 : (Jvm.Cond.initialized "ThreeModeJournal$Memory") ∈ tj_T := tj_t (tj_r0 5 (by rfl)) (by rfl)
theorem T_6 : (Jvm.Cond.initialized "ThreeModeJournalModel") ∈ tj_T := tj_t (tj_r0 6 (by rfl)) (by rfl)
theorem T_7 : (Jvm.Cond.initialized "java/lang/Integer") ∈ tj_T := tj_t (tj_r0 7 (by rfl)) (by rfl)
theorem T_8 : (Jvm.Cond.initialized "java/lang/System") ∈ tj_T := tj_t (tj_r0 8 (by rfl)) (by rfl)
theorem T_9 : (Jvm.Cond.initialized "java/lang/Math") ∈ tj_T := tj_t (tj_r0 9 (by rfl)) (by rfl)
theorem T_10 : (Jvm.Cond.classLink "ThreeModeJournalLaw" (7 : Nat) "ThreeModeJournal") ∈ tj_T := tj_t (tj_r0 10 (by rfl)) (by rfl)
theorem T_11 : (Jvm.Cond.instantiable "ThreeModeJournal" (4 : Nat)) ∈ tj_T := tj_t (tj_r0 11 (by rfl)) (by rfl)
theorem T_12 : (Jvm.Cond.methodLink "ThreeModeJournalLaw" (9 : Nat) ({ cls := "ThreeModeJournal", name := "<init>", desc := "()V" } : Jvm.MethodName)) ∈ tj_T := tj_t (tj_r0 12 (by rfl)) (by rfl)
theorem T_13 : (Jvm.Cond.instanceMethod ({ cls := "ThreeModeJournal", name := "<init>", desc := "()V" } : Jvm.MethodName)) ∈ tj_T := tj_t (tj_r0 13 (by rfl)) (by rfl)
theorem T_14 : (Jvm.Cond.code ({ cls := "ThreeModeJournal", name := "<init>", desc := "()V" } : Jvm.MethodName) prog_1_method_1_code (1 : Nat) (Option.none : Option Jvm.ClassFile.FieldType)) ∈ tj_T := tj_t (tj_r0 14 (by rfl)) (by rfl)
theorem T_15 : (Jvm.Cond.methodLink "ThreeModeJournal" (1 : Nat) ({ cls := "java/lang/Object", name := "<init>", desc := "()V" } : Jvm.MethodName)) ∈ tj_T := tj_t (tj_r0 15 (by rfl)) (by rfl)
theorem T_16 : (Jvm.Cond.instanceMethod ({ cls := "java/lang/Object", name := "<init>", desc := "()V" } : Jvm.MethodName)) ∈ tj_T := tj_t (tj_r0 16 (by rfl)) (by rfl)
theorem T_17 : (Jvm.Cond.code ({ cls := "java/lang/Object", name := "<init>", desc := "()V" } : Jvm.MethodName) object_method_1_code (1 : Nat) (Option.none : Option Jvm.ClassFile.FieldType)) ∈ tj_T := tj_t (tj_r0 17 (by rfl)) (by rfl)
theorem T_18 : (Jvm.Cond.classLink "ThreeModeJournal" (7 : Nat) "ThreeModeJournal$Disk") ∈ tj_T := tj_t (tj_r0 18 (by rfl)) (by rfl)
theorem T_19 : (Jvm.Cond.instantiable "ThreeModeJournal$Disk" (3 : Nat)) ∈ tj_T := tj_t (tj_r0 19 (by rfl)) (by rfl)
theorem N_20 : (Jvm.Cond.methodLinkNest "ThreeModeJournal" (9 : Nat) ({ cls := "ThreeModeJournal$Disk", name := "<init>", desc := "()V" } : Jvm.MethodName) "ThreeModeJournal") ∈ tj_N := tj_n (tj_r0 20 (by rfl)) (by rfl)
theorem T_21 : (Jvm.Cond.instanceMethod ({ cls := "ThreeModeJournal$Disk", name := "<init>", desc := "()V" } : Jvm.MethodName)) ∈ tj_T := tj_t (tj_r0 21 (by rfl)) (by rfl)
theorem T_22 : (Jvm.Cond.code ({ cls := "ThreeModeJournal$Disk", name := "<init>", desc := "()V" } : Jvm.MethodName) prog_2_method_1_code (1 : Nat) (Option.none : Option Jvm.ClassFile.FieldType)) ∈ tj_T := tj_t (tj_r0 22 (by rfl)) (by rfl)
theorem T_23 : (Jvm.Cond.methodLink "ThreeModeJournal$Disk" (3 : Nat) ({ cls := "java/lang/Object", name := "<init>", desc := "()V" } : Jvm.MethodName)) ∈ tj_T := tj_t (tj_r0 23 (by rfl)) (by rfl)
theorem T_24 : (Jvm.Cond.classLink "ThreeModeJournal$Disk" (9 : Nat) "ThreeModeJournal$Power") ∈ tj_T := tj_t (tj_r0 24 (by rfl)) (by rfl)
theorem T_25 : (Jvm.Cond.instantiable "ThreeModeJournal$Power" (3 : Nat)) ∈ tj_T := tj_t (tj_r0 25 (by rfl)) (by rfl)
theorem N_26 : (Jvm.Cond.methodLinkNest "ThreeModeJournal$Disk" (11 : Nat) ({ cls := "ThreeModeJournal$Power", name := "<init>", desc := "()V" } : Jvm.MethodName) "ThreeModeJournal") ∈ tj_N := tj_n (tj_r0 26 (by rfl)) (by rfl)
theorem T_27 : (Jvm.Cond.instanceMethod ({ cls := "ThreeModeJournal$Power", name := "<init>", desc := "()V" } : Jvm.MethodName)) ∈ tj_T := tj_t (tj_r0 27 (by rfl)) (by rfl)
theorem T_28 : (Jvm.Cond.code ({ cls := "ThreeModeJournal$Power", name := "<init>", desc := "()V" } : Jvm.MethodName) prog_5_method_1_code (1 : Nat) (Option.none : Option Jvm.ClassFile.FieldType)) ∈ tj_T := tj_t (tj_r0 28 (by rfl)) (by rfl)
theorem T_29 : (Jvm.Cond.methodLink "ThreeModeJournal$Power" (3 : Nat) ({ cls := "java/lang/Object", name := "<init>", desc := "()V" } : Jvm.MethodName)) ∈ tj_T := tj_t (tj_r0 29 (by rfl)) (by rfl)
theorem T_30 : (Jvm.Cond.fieldLink "ThreeModeJournal$Power" (9 : Nat) "ThreeModeJournal$Power" "on" "Z") ∈ tj_T := tj_t (tj_r0 30 (by rfl)) (by rfl)
theorem N_31 : (Jvm.Cond.fieldLinkNest "ThreeModeJournal" (32 : Nat) "ThreeModeJournal$Power" "on" "Z" "ThreeModeJournal") ∈ tj_N := tj_n (tj_r0 31 (by rfl)) (by rfl)
theorem T_32 : (Jvm.Cond.fieldLink "ThreeModeJournal$Power" (15 : Nat) "ThreeModeJournal$Power" "fuseLeft" "I") ∈ tj_T := tj_t (tj_r0 32 (by rfl)) (by rfl)
theorem N_33 : (Jvm.Cond.fieldLinkNest "ThreeModeJournal" (110 : Nat) "ThreeModeJournal$Power" "fuseLeft" "I" "ThreeModeJournal") ∈ tj_N := tj_n (tj_r0 33 (by rfl)) (by rfl)
theorem T_34 : (Jvm.Cond.fieldLink "ThreeModeJournal$Power" (19 : Nat) "ThreeModeJournal$Power" "writesMade" "I") ∈ tj_T := tj_t (tj_r0 34 (by rfl)) (by rfl)
theorem N_35 : (Jvm.Cond.fieldLinkNest "ThreeModeJournal" (95 : Nat) "ThreeModeJournal$Power" "writesMade" "I" "ThreeModeJournal") ∈ tj_N := tj_n (tj_r0 35 (by rfl)) (by rfl)
theorem T_36 : (Jvm.Cond.lays "ThreeModeJournal$Power" "ThreeModeJournal$Power" "on" "Z") ∈ tj_T := tj_t (tj_r0 36 (by rfl)) (by rfl)
theorem T_38 : (Jvm.Cond.lays "ThreeModeJournal$Power" "ThreeModeJournal$Power" "fuseLeft" "I") ∈ tj_T := tj_t (tj_r0 38 (by rfl)) (by rfl)
theorem T_40 : (Jvm.Cond.lays "ThreeModeJournal$Power" "ThreeModeJournal$Power" "writesMade" "I") ∈ tj_T := tj_t (tj_r0 40 (by rfl)) (by rfl)
theorem T_43 : (Jvm.Cond.classLink "ThreeModeJournal$Disk" (22 : Nat) "ThreeModeJournal$Log") ∈ tj_T := tj_t (tj_r0 43 (by rfl)) (by rfl)
theorem T_44 : (Jvm.Cond.instantiable "ThreeModeJournal$Log" (8 : Nat)) ∈ tj_T := tj_t (tj_r0 44 (by rfl)) (by rfl)
theorem N_45 : (Jvm.Cond.methodLinkNest "ThreeModeJournal$Disk" (24 : Nat) ({ cls := "ThreeModeJournal$Log", name := "<init>", desc := "()V" } : Jvm.MethodName) "ThreeModeJournal") ∈ tj_N := tj_n (tj_r0 45 (by rfl)) (by rfl)
theorem T_46 : (Jvm.Cond.instanceMethod ({ cls := "ThreeModeJournal$Log", name := "<init>", desc := "()V" } : Jvm.MethodName)) ∈ tj_T := tj_t (tj_r0 46 (by rfl)) (by rfl)
theorem T_47 : (Jvm.Cond.code ({ cls := "ThreeModeJournal$Log", name := "<init>", desc := "()V" } : Jvm.MethodName) prog_3_method_1_code (1 : Nat) (Option.none : Option Jvm.ClassFile.FieldType)) ∈ tj_T := tj_t (tj_r0 47 (by rfl)) (by rfl)
theorem T_48 : (Jvm.Cond.methodLink "ThreeModeJournal$Log" (3 : Nat) ({ cls := "java/lang/Object", name := "<init>", desc := "()V" } : Jvm.MethodName)) ∈ tj_T := tj_t (tj_r0 48 (by rfl)) (by rfl)
theorem T_49 : (Jvm.Cond.fieldLink "ThreeModeJournal$Log" (9 : Nat) "ThreeModeJournal$Log" "words" "[I") ∈ tj_T := tj_t (tj_r0 49 (by rfl)) (by rfl)
theorem N_50 : (Jvm.Cond.fieldLinkNest "ThreeModeJournal$Disk" (68 : Nat) "ThreeModeJournal$Log" "words" "[I" "ThreeModeJournal") ∈ tj_N := tj_n (tj_r0 50 (by rfl)) (by rfl)
theorem T_51 : (Jvm.Cond.fieldLink "ThreeModeJournal$Log" (15 : Nat) "ThreeModeJournal$Log" "starts" "[I") ∈ tj_T := tj_t (tj_r0 51 (by rfl)) (by rfl)
theorem T_52 : (Jvm.Cond.fieldLink "ThreeModeJournal$Log" (18 : Nat) "ThreeModeJournal$Log" "sizes" "[I") ∈ tj_T := tj_t (tj_r0 52 (by rfl)) (by rfl)
theorem T_53 : (Jvm.Cond.fieldLink "ThreeModeJournal$Log" (21 : Nat) "ThreeModeJournal$Log" "copied" "[I") ∈ tj_T := tj_t (tj_r0 53 (by rfl)) (by rfl)
theorem T_54 : (Jvm.Cond.fieldLink "ThreeModeJournal$Log" (24 : Nat) "ThreeModeJournal$Log" "revoked" "[I") ∈ tj_T := tj_t (tj_r0 54 (by rfl)) (by rfl)
theorem T_55 : (Jvm.Cond.fieldLink "ThreeModeJournal$Log" (27 : Nat) "ThreeModeJournal$Log" "oldest" "I") ∈ tj_T := tj_t (tj_r0 55 (by rfl)) (by rfl)
theorem T_56 : (Jvm.Cond.fieldLink "ThreeModeJournal$Log" (31 : Nat) "ThreeModeJournal$Log" "count" "I") ∈ tj_T := tj_t (tj_r0 56 (by rfl)) (by rfl)
theorem N_57 : (Jvm.Cond.fieldLinkNest "ThreeModeJournal$Disk" (58 : Nat) "ThreeModeJournal$Log" "count" "I" "ThreeModeJournal") ∈ tj_N := tj_n (tj_r0 57 (by rfl)) (by rfl)
theorem N_58 : (Jvm.Cond.fieldLinkNest "ThreeModeJournal" (102 : Nat) "ThreeModeJournal$Log" "count" "I" "ThreeModeJournal") ∈ tj_N := tj_n (tj_r0 58 (by rfl)) (by rfl)
theorem T_59 : (Jvm.Cond.fieldLink "ThreeModeJournal$Log" (34 : Nat) "ThreeModeJournal$Log" "next" "I") ∈ tj_T := tj_t (tj_r0 59 (by rfl)) (by rfl)
theorem N_60 : (Jvm.Cond.fieldLinkNest "ThreeModeJournal" (134 : Nat) "ThreeModeJournal$Log" "next" "I" "ThreeModeJournal") ∈ tj_N := tj_n (tj_r0 60 (by rfl)) (by rfl)
theorem T_61 : (Jvm.Cond.laysFinal "ThreeModeJournal$Log" "ThreeModeJournal$Log" "words" "[I") ∈ tj_T := tj_t (tj_r0 61 (by rfl)) (by rfl)
theorem T_63 : (Jvm.Cond.laysFinal "ThreeModeJournal$Log" "ThreeModeJournal$Log" "starts" "[I") ∈ tj_T := tj_t (tj_r0 63 (by rfl)) (by rfl)
theorem T_65 : (Jvm.Cond.laysFinal "ThreeModeJournal$Log" "ThreeModeJournal$Log" "sizes" "[I") ∈ tj_T := tj_t (tj_r0 65 (by rfl)) (by rfl)
theorem T_67 : (Jvm.Cond.laysFinal "ThreeModeJournal$Log" "ThreeModeJournal$Log" "copied" "[I") ∈ tj_T := tj_t (tj_r0 67 (by rfl)) (by rfl)
theorem T_69 : (Jvm.Cond.laysFinal "ThreeModeJournal$Log" "ThreeModeJournal$Log" "revoked" "[I") ∈ tj_T := tj_t (tj_r0 69 (by rfl)) (by rfl)
theorem T_71 : (Jvm.Cond.lays "ThreeModeJournal$Log" "ThreeModeJournal$Log" "oldest" "I") ∈ tj_T := tj_t (tj_r0 71 (by rfl)) (by rfl)
theorem T_73 : (Jvm.Cond.lays "ThreeModeJournal$Log" "ThreeModeJournal$Log" "count" "I") ∈ tj_T := tj_t (tj_r0 73 (by rfl)) (by rfl)
theorem T_75 : (Jvm.Cond.lays "ThreeModeJournal$Log" "ThreeModeJournal$Log" "next" "I") ∈ tj_T := tj_t (tj_r0 75 (by rfl)) (by rfl)
theorem T_78 : (Jvm.Cond.arrayClass Jvm.ClassFile.FieldType.int) ∈ tj_T := tj_t (tj_r0 78 (by rfl)) (by rfl)
theorem T_79 : (Jvm.Cond.fieldLink "ThreeModeJournal$Disk" (12 : Nat) "ThreeModeJournal$Disk" "power" "LThreeModeJournal$Power;") ∈ tj_T := tj_t (tj_r0 79 (by rfl)) (by rfl)
theorem N_80 : (Jvm.Cond.fieldLinkNest "ThreeModeJournal" (16 : Nat) "ThreeModeJournal$Disk" "power" "LThreeModeJournal$Power;" "ThreeModeJournal") ∈ tj_N := tj_n (tj_r0 80 (by rfl)) (by rfl)
theorem T_81 : (Jvm.Cond.fieldLink "ThreeModeJournal$Disk" (18 : Nat) "ThreeModeJournal$Disk" "homeWords" "[I") ∈ tj_T := tj_t (tj_r0 81 (by rfl)) (by rfl)
theorem N_82 : (Jvm.Cond.fieldLinkNest "ThreeModeJournal" (116 : Nat) "ThreeModeJournal$Disk" "homeWords" "[I" "ThreeModeJournal") ∈ tj_N := tj_n (tj_r0 82 (by rfl)) (by rfl)
theorem T_83 : (Jvm.Cond.fieldLink "ThreeModeJournal$Disk" (25 : Nat) "ThreeModeJournal$Disk" "log" "LThreeModeJournal$Log;") ∈ tj_T := tj_t (tj_r0 83 (by rfl)) (by rfl)
theorem N_84 : (Jvm.Cond.fieldLinkNest "ThreeModeJournal" (98 : Nat) "ThreeModeJournal$Disk" "log" "LThreeModeJournal$Log;" "ThreeModeJournal") ∈ tj_N := tj_n (tj_r0 84 (by rfl)) (by rfl)
theorem T_85 : (Jvm.Cond.laysFinal "ThreeModeJournal$Disk" "ThreeModeJournal$Disk" "power" "LThreeModeJournal$Power;") ∈ tj_T := tj_t (tj_r0 85 (by rfl)) (by rfl)
theorem T_87 : (Jvm.Cond.laysFinal "ThreeModeJournal$Disk" "ThreeModeJournal$Disk" "homeWords" "[I") ∈ tj_T := tj_t (tj_r0 87 (by rfl)) (by rfl)
theorem T_89 : (Jvm.Cond.laysFinal "ThreeModeJournal$Disk" "ThreeModeJournal$Disk" "log" "LThreeModeJournal$Log;") ∈ tj_T := tj_t (tj_r0 89 (by rfl)) (by rfl)
theorem T_92 : (Jvm.Cond.classLink "ThreeModeJournal" (21 : Nat) "ThreeModeJournal$Memory") ∈ tj_T := tj_t (tj_r0 92 (by rfl)) (by rfl)
theorem T_93 : (Jvm.Cond.instantiable "ThreeModeJournal$Memory" (6 : Nat)) ∈ tj_T := tj_t (tj_r0 93 (by rfl)) (by rfl)
theorem N_94 : (Jvm.Cond.methodLinkNest "ThreeModeJournal" (23 : Nat) ({ cls := "ThreeModeJournal$Memory", name := "<init>", desc := "()V" } : Jvm.MethodName) "ThreeModeJournal") ∈ tj_N := tj_n (tj_r0 94 (by rfl)) (by rfl)
theorem T_95 : (Jvm.Cond.instanceMethod ({ cls := "ThreeModeJournal$Memory", name := "<init>", desc := "()V" } : Jvm.MethodName)) ∈ tj_T := tj_t (tj_r0 95 (by rfl)) (by rfl)
theorem T_96 : (Jvm.Cond.code ({ cls := "ThreeModeJournal$Memory", name := "<init>", desc := "()V" } : Jvm.MethodName) prog_4_method_1_code (1 : Nat) (Option.none : Option Jvm.ClassFile.FieldType)) ∈ tj_T := tj_t (tj_r0 96 (by rfl)) (by rfl)
theorem T_97 : (Jvm.Cond.methodLink "ThreeModeJournal$Memory" (3 : Nat) ({ cls := "java/lang/Object", name := "<init>", desc := "()V" } : Jvm.MethodName)) ∈ tj_T := tj_t (tj_r0 97 (by rfl)) (by rfl)
theorem T_98 : (Jvm.Cond.fieldLink "ThreeModeJournal$Memory" (9 : Nat) "ThreeModeJournal$Memory" "words" "[I") ∈ tj_T := tj_t (tj_r0 98 (by rfl)) (by rfl)
theorem N_99 : (Jvm.Cond.fieldLinkNest "ThreeModeJournal$Log" (68 : Nat) "ThreeModeJournal$Memory" "words" "[I" "ThreeModeJournal") ∈ tj_N := tj_n (tj_r0 99 (by rfl)) (by rfl)
theorem N_100 : (Jvm.Cond.fieldLinkNest "ThreeModeJournal" (193 : Nat) "ThreeModeJournal$Memory" "words" "[I" "ThreeModeJournal") ∈ tj_N := tj_n (tj_r0 100 (by rfl)) (by rfl)
theorem T_101 : (Jvm.Cond.fieldLink "ThreeModeJournal$Memory" (15 : Nat) "ThreeModeJournal$Memory" "dirtyOrder" "[I") ∈ tj_T := tj_t (tj_r0 101 (by rfl)) (by rfl)
theorem T_102 : (Jvm.Cond.fieldLink "ThreeModeJournal$Memory" (18 : Nat) "ThreeModeJournal$Memory" "dirtyCount" "I") ∈ tj_T := tj_t (tj_r0 102 (by rfl)) (by rfl)
theorem N_103 : (Jvm.Cond.fieldLinkNest "ThreeModeJournal" (84 : Nat) "ThreeModeJournal$Memory" "dirtyCount" "I" "ThreeModeJournal") ∈ tj_N := tj_n (tj_r0 103 (by rfl)) (by rfl)
theorem T_104 : (Jvm.Cond.fieldLink "ThreeModeJournal$Memory" (22 : Nat) "ThreeModeJournal$Memory" "joined" "I") ∈ tj_T := tj_t (tj_r0 104 (by rfl)) (by rfl)
theorem N_105 : (Jvm.Cond.fieldLinkNest "ThreeModeJournal$Log" (61 : Nat) "ThreeModeJournal$Memory" "joined" "I" "ThreeModeJournal") ∈ tj_N := tj_n (tj_r0 105 (by rfl)) (by rfl)
theorem T_106 : (Jvm.Cond.fieldLink "ThreeModeJournal$Memory" (25 : Nat) "ThreeModeJournal$Memory" "revoked" "I") ∈ tj_T := tj_t (tj_r0 106 (by rfl)) (by rfl)
theorem N_107 : (Jvm.Cond.fieldLinkNest "ThreeModeJournal$Log" (66 : Nat) "ThreeModeJournal$Memory" "revoked" "I" "ThreeModeJournal") ∈ tj_N := tj_n (tj_r0 107 (by rfl)) (by rfl)
theorem T_108 : (Jvm.Cond.fieldLink "ThreeModeJournal$Memory" (28 : Nat) "ThreeModeJournal$Memory" "committedUse" "I") ∈ tj_T := tj_t (tj_r0 108 (by rfl)) (by rfl)
theorem T_109 : (Jvm.Cond.laysFinal "ThreeModeJournal$Memory" "ThreeModeJournal$Memory" "words" "[I") ∈ tj_T := tj_t (tj_r0 109 (by rfl)) (by rfl)
theorem T_111 : (Jvm.Cond.laysFinal "ThreeModeJournal$Memory" "ThreeModeJournal$Memory" "dirtyOrder" "[I") ∈ tj_T := tj_t (tj_r0 111 (by rfl)) (by rfl)
theorem T_113 : (Jvm.Cond.lays "ThreeModeJournal$Memory" "ThreeModeJournal$Memory" "dirtyCount" "I") ∈ tj_T := tj_t (tj_r0 113 (by rfl)) (by rfl)
theorem T_115 : (Jvm.Cond.lays "ThreeModeJournal$Memory" "ThreeModeJournal$Memory" "joined" "I") ∈ tj_T := tj_t (tj_r0 115 (by rfl)) (by rfl)
theorem T_117 : (Jvm.Cond.lays "ThreeModeJournal$Memory" "ThreeModeJournal$Memory" "revoked" "I") ∈ tj_T := tj_t (tj_r0 117 (by rfl)) (by rfl)
theorem T_119 : (Jvm.Cond.lays "ThreeModeJournal$Memory" "ThreeModeJournal$Memory" "committedUse" "I") ∈ tj_T := tj_t (tj_r0 119 (by rfl)) (by rfl)
theorem T_122 : (Jvm.Cond.fieldLink "ThreeModeJournal" (20 : Nat) "ThreeModeJournal" "power" "LThreeModeJournal$Power;") ∈ tj_T := tj_t (tj_r0 122 (by rfl)) (by rfl)
theorem T_123 : (Jvm.Cond.fieldLink "ThreeModeJournal" (10 : Nat) "ThreeModeJournal" "disk" "LThreeModeJournal$Disk;") ∈ tj_T := tj_t (tj_r0 123 (by rfl)) (by rfl)
theorem T_124 : (Jvm.Cond.fieldLink "ThreeModeJournal" (24 : Nat) "ThreeModeJournal" "memory" "LThreeModeJournal$Memory;") ∈ tj_T := tj_t (tj_r0 124 (by rfl)) (by rfl)
theorem T_125 : (Jvm.Cond.fieldLink "ThreeModeJournal" (28 : Nat) "ThreeModeJournal" "currentMode" "I") ∈ tj_T := tj_t (tj_r0 125 (by rfl)) (by rfl)
theorem T_126 : (Jvm.Cond.laysFinal "ThreeModeJournal" "ThreeModeJournal" "power" "LThreeModeJournal$Power;") ∈ tj_T := tj_t (tj_r0 126 (by rfl)) (by rfl)
theorem T_128 : (Jvm.Cond.laysFinal "ThreeModeJournal" "ThreeModeJournal" "disk" "LThreeModeJournal$Disk;") ∈ tj_T := tj_t (tj_r0 128 (by rfl)) (by rfl)
theorem T_130 : (Jvm.Cond.laysFinal "ThreeModeJournal" "ThreeModeJournal" "memory" "LThreeModeJournal$Memory;") ∈ tj_T := tj_t (tj_r0 130 (by rfl)) (by rfl)
theorem T_132 : (Jvm.Cond.lays "ThreeModeJournal" "ThreeModeJournal" "currentMode" "I") ∈ tj_T := tj_t (tj_r0 132 (by rfl)) (by rfl)
theorem T_135 : (Jvm.Cond.methodLink "ThreeModeJournalLaw" (13 : Nat) ({ cls := "ThreeModeJournal", name := "write", desc := "(III)Z" } : Jvm.MethodName)) ∈ tj_T := tj_t (tj_r0 135 (by rfl)) (by rfl)
theorem T_136 : (Jvm.Cond.instanceMethod ({ cls := "ThreeModeJournal", name := "write", desc := "(III)Z" } : Jvm.MethodName)) ∈ tj_T := tj_t (tj_r0 136 (by rfl)) (by rfl)
theorem T_137 : (Jvm.Cond.selects "ThreeModeJournal" ({ cls := "ThreeModeJournal", name := "write", desc := "(III)Z" } : Jvm.MethodName) ({ cls := "ThreeModeJournal", name := "write", desc := "(III)Z" } : Jvm.MethodName)) ∈ tj_T := tj_t (tj_r0 137 (by rfl)) (by rfl)
theorem T_138 : (Jvm.Cond.code ({ cls := "ThreeModeJournal", name := "write", desc := "(III)Z" } : Jvm.MethodName) prog_1_method_2_code (5 : Nat) (Option.some Jvm.ClassFile.FieldType.boolean)) ∈ tj_T := tj_t (tj_r0 138 (by rfl)) (by rfl)
theorem T_139 : (Jvm.Cond.methodLink "ThreeModeJournal" (38 : Nat) ({ cls := "ThreeModeJournal", name := "isFile", desc := "(I)Z" } : Jvm.MethodName)) ∈ tj_T := tj_t (tj_r0 139 (by rfl)) (by rfl)
theorem T_140 : (Jvm.Cond.static ({ cls := "ThreeModeJournal", name := "isFile", desc := "(I)Z" } : Jvm.MethodName)) ∈ tj_T := tj_t (tj_r0 140 (by rfl)) (by rfl)
theorem T_141 : (Jvm.Cond.code ({ cls := "ThreeModeJournal", name := "isFile", desc := "(I)Z" } : Jvm.MethodName) prog_1_method_22_code (1 : Nat) (Option.some Jvm.ClassFile.FieldType.boolean)) ∈ tj_T := tj_t (tj_r0 141 (by rfl)) (by rfl)
theorem T_142 : (Jvm.Cond.methodLink "ThreeModeJournal" (42 : Nat) ({ cls := "ThreeModeJournal$Memory", name := "fileLength", desc := "(I)I" } : Jvm.MethodName)) ∈ tj_T := tj_t (tj_r0 142 (by rfl)) (by rfl)
theorem T_143 : (Jvm.Cond.instanceMethod ({ cls := "ThreeModeJournal$Memory", name := "fileLength", desc := "(I)I" } : Jvm.MethodName)) ∈ tj_T := tj_t (tj_r0 143 (by rfl)) (by rfl)
theorem T_144 : (Jvm.Cond.selects "ThreeModeJournal$Memory" ({ cls := "ThreeModeJournal$Memory", name := "fileLength", desc := "(I)I" } : Jvm.MethodName) ({ cls := "ThreeModeJournal$Memory", name := "fileLength", desc := "(I)I" } : Jvm.MethodName)) ∈ tj_T := tj_t (tj_r0 144 (by rfl)) (by rfl)
theorem T_145 : (Jvm.Cond.code ({ cls := "ThreeModeJournal$Memory", name := "fileLength", desc := "(I)I" } : Jvm.MethodName) prog_4_method_7_code (2 : Nat) (Option.some Jvm.ClassFile.FieldType.int)) ∈ tj_T := tj_t (tj_r0 145 (by rfl)) (by rfl)
theorem T_146 : (Jvm.Cond.methodLink "ThreeModeJournal$Memory" (57 : Nat) ({ cls := "ThreeModeJournal$Memory", name := "word", desc := "(II)I" } : Jvm.MethodName)) ∈ tj_T := tj_t (tj_r0 146 (by rfl)) (by rfl)
theorem T_147 : (Jvm.Cond.instanceMethod ({ cls := "ThreeModeJournal$Memory", name := "word", desc := "(II)I" } : Jvm.MethodName)) ∈ tj_T := tj_t (tj_r0 147 (by rfl)) (by rfl)
theorem T_148 : (Jvm.Cond.selects "ThreeModeJournal$Memory" ({ cls := "ThreeModeJournal$Memory", name := "word", desc := "(II)I" } : Jvm.MethodName) ({ cls := "ThreeModeJournal$Memory", name := "word", desc := "(II)I" } : Jvm.MethodName)) ∈ tj_T := tj_t (tj_r0 148 (by rfl)) (by rfl)
theorem T_149 : (Jvm.Cond.code ({ cls := "ThreeModeJournal$Memory", name := "word", desc := "(II)I" } : Jvm.MethodName) prog_4_method_5_code (3 : Nat) (Option.some Jvm.ClassFile.FieldType.int)) ∈ tj_T := tj_t (tj_r0 149 (by rfl)) (by rfl)
theorem N_150 : (Jvm.Cond.methodLinkNest "ThreeModeJournal$Memory" (53 : Nat) ({ cls := "ThreeModeJournal", name := "isWord", desc := "(II)Z" } : Jvm.MethodName) "ThreeModeJournal") ∈ tj_N := tj_n (tj_r0 150 (by rfl)) (by rfl)
theorem T_151 : (Jvm.Cond.static ({ cls := "ThreeModeJournal", name := "isWord", desc := "(II)Z" } : Jvm.MethodName)) ∈ tj_T := tj_t (tj_r0 151 (by rfl)) (by rfl)
theorem T_152 : (Jvm.Cond.code ({ cls := "ThreeModeJournal", name := "isWord", desc := "(II)Z" } : Jvm.MethodName) prog_1_method_25_code (2 : Nat) (Option.some Jvm.ClassFile.FieldType.boolean)) ∈ tj_T := tj_t (tj_r0 152 (by rfl)) (by rfl)
theorem T_153 : (Jvm.Cond.methodLink "ThreeModeJournal" (46 : Nat) ({ cls := "ThreeModeJournal", name := "blocksToTake", desc := "(II)I" } : Jvm.MethodName)) ∈ tj_T := tj_t (tj_r0 153 (by rfl)) (by rfl)
theorem T_154 : (Jvm.Cond.static ({ cls := "ThreeModeJournal", name := "blocksToTake", desc := "(II)I" } : Jvm.MethodName)) ∈ tj_T := tj_t (tj_r0 154 (by rfl)) (by rfl)
theorem T_155 : (Jvm.Cond.code ({ cls := "ThreeModeJournal", name := "blocksToTake", desc := "(II)I" } : Jvm.MethodName) prog_1_method_29_code (2 : Nat) (Option.some Jvm.ClassFile.FieldType.int)) ∈ tj_T := tj_t (tj_r0 155 (by rfl)) (by rfl)
theorem T_156 : (Jvm.Cond.methodLink "ThreeModeJournal" (50 : Nat) ({ cls := "ThreeModeJournal$Memory", name := "takeableCount", desc := "()I" } : Jvm.MethodName)) ∈ tj_T := tj_t (tj_r0 156 (by rfl)) (by rfl)
theorem T_157 : (Jvm.Cond.instanceMethod ({ cls := "ThreeModeJournal$Memory", name := "takeableCount", desc := "()I" } : Jvm.MethodName)) ∈ tj_T := tj_t (tj_r0 157 (by rfl)) (by rfl)
theorem T_158 : (Jvm.Cond.selects "ThreeModeJournal$Memory" ({ cls := "ThreeModeJournal$Memory", name := "takeableCount", desc := "()I" } : Jvm.MethodName) ({ cls := "ThreeModeJournal$Memory", name := "takeableCount", desc := "()I" } : Jvm.MethodName)) ∈ tj_T := tj_t (tj_r0 158 (by rfl)) (by rfl)
theorem T_159 : (Jvm.Cond.code ({ cls := "ThreeModeJournal$Memory", name := "takeableCount", desc := "()I" } : Jvm.MethodName) prog_4_method_14_code (1 : Nat) (Option.some Jvm.ClassFile.FieldType.int)) ∈ tj_T := tj_t (tj_r0 159 (by rfl)) (by rfl)
theorem T_160 : (Jvm.Cond.methodLink "ThreeModeJournal$Memory" (82 : Nat) ({ cls := "ThreeModeJournal$Memory", name := "takeable", desc := "()I" } : Jvm.MethodName)) ∈ tj_T := tj_t (tj_r0 160 (by rfl)) (by rfl)
theorem T_162 : (Jvm.Cond.instanceMethod ({ cls := "ThreeModeJournal$Memory", name := "takeable", desc := "()I" } : Jvm.MethodName)) ∈ tj_T := tj_t (tj_r0 162 (by rfl)) (by rfl)
theorem T_163 : (Jvm.Cond.code ({ cls := "ThreeModeJournal$Memory", name := "takeable", desc := "()I" } : Jvm.MethodName) prog_4_method_22_code (1 : Nat) (Option.some Jvm.ClassFile.FieldType.int)) ∈ tj_T := tj_t (tj_r0 163 (by rfl)) (by rfl)
theorem T_164 : (Jvm.Cond.methodLink "ThreeModeJournal$Memory" (40 : Nat) ({ cls := "ThreeModeJournal$Memory", name := "blocksInUse", desc := "()I" } : Jvm.MethodName)) ∈ tj_T := tj_t (tj_r0 164 (by rfl)) (by rfl)
theorem T_166 : (Jvm.Cond.instanceMethod ({ cls := "ThreeModeJournal$Memory", name := "blocksInUse", desc := "()I" } : Jvm.MethodName)) ∈ tj_T := tj_t (tj_r0 166 (by rfl)) (by rfl)
theorem T_167 : (Jvm.Cond.code ({ cls := "ThreeModeJournal$Memory", name := "blocksInUse", desc := "()I" } : Jvm.MethodName) prog_4_method_21_code (1 : Nat) (Option.some Jvm.ClassFile.FieldType.int)) ∈ tj_T := tj_t (tj_r0 167 (by rfl)) (by rfl)
theorem T_168 : (Jvm.Cond.constant "ThreeModeJournal$Memory" (97 : Nat) (65535 : Int32)) ∈ tj_T := tj_t (tj_r0 168 (by rfl)) (by rfl)
theorem T_169 : (Jvm.Cond.methodLink "ThreeModeJournal$Memory" (44 : Nat) ({ cls := "java/lang/Integer", name := "bitCount", desc := "(I)I" } : Jvm.MethodName)) ∈ tj_T := tj_t (tj_r0 169 (by rfl)) (by rfl)
theorem T_170 : (Jvm.Cond.static ({ cls := "java/lang/Integer", name := "bitCount", desc := "(I)I" } : Jvm.MethodName)) ∈ tj_T := tj_t (tj_r0 170 (by rfl)) (by rfl)
theorem T_171 : (Jvm.Cond.code ({ cls := "java/lang/Integer", name := "bitCount", desc := "(I)I" } : Jvm.MethodName) prog_8_method_49_code (1 : Nat) (Option.some Jvm.ClassFile.FieldType.int)) ∈ tj_T := tj_t (tj_r0 171 (by rfl)) (by rfl)
theorem T_172 : (Jvm.Cond.constant "java/lang/Integer" (265 : Nat) (1431655765 : Int32)) ∈ tj_T := tj_t (tj_r0 172 (by rfl)) (by rfl)
theorem T_173 : (Jvm.Cond.constant "java/lang/Integer" (266 : Nat) (858993459 : Int32)) ∈ tj_T := tj_t (tj_r0 173 (by rfl)) (by rfl)
theorem T_174 : (Jvm.Cond.constant "java/lang/Integer" (267 : Nat) (252645135 : Int32)) ∈ tj_T := tj_t (tj_r0 174 (by rfl)) (by rfl)
theorem T_175 : (Jvm.Cond.methodLink "ThreeModeJournal" (54 : Nat) ({ cls := "ThreeModeJournal", name := "commitIfLarge", desc := "()Z" } : Jvm.MethodName)) ∈ tj_T := tj_t (tj_r0 175 (by rfl)) (by rfl)
theorem T_177 : (Jvm.Cond.instanceMethod ({ cls := "ThreeModeJournal", name := "commitIfLarge", desc := "()Z" } : Jvm.MethodName)) ∈ tj_T := tj_t (tj_r0 177 (by rfl)) (by rfl)
theorem T_178 : (Jvm.Cond.code ({ cls := "ThreeModeJournal", name := "commitIfLarge", desc := "()Z" } : Jvm.MethodName) prog_1_method_35_code (1 : Nat) (Option.some Jvm.ClassFile.FieldType.boolean)) ∈ tj_T := tj_t (tj_r0 178 (by rfl)) (by rfl)
theorem T_179 : (Jvm.Cond.methodLink "ThreeModeJournal" (128 : Nat) ({ cls := "ThreeModeJournal$Memory", name := "logBlocksNeeded", desc := "()I" } : Jvm.MethodName)) ∈ tj_T := tj_t (tj_r0 179 (by rfl)) (by rfl)
theorem T_180 : (Jvm.Cond.instanceMethod ({ cls := "ThreeModeJournal$Memory", name := "logBlocksNeeded", desc := "()I" } : Jvm.MethodName)) ∈ tj_T := tj_t (tj_r0 180 (by rfl)) (by rfl)
theorem T_181 : (Jvm.Cond.selects "ThreeModeJournal$Memory" ({ cls := "ThreeModeJournal$Memory", name := "logBlocksNeeded", desc := "()I" } : Jvm.MethodName) ({ cls := "ThreeModeJournal$Memory", name := "logBlocksNeeded", desc := "()I" } : Jvm.MethodName)) ∈ tj_T := tj_t (tj_r0 181 (by rfl)) (by rfl)
theorem T_182 : (Jvm.Cond.code ({ cls := "ThreeModeJournal$Memory", name := "logBlocksNeeded", desc := "()I" } : Jvm.MethodName) prog_4_method_4_code (2 : Nat) (Option.some Jvm.ClassFile.FieldType.int)) ∈ tj_T := tj_t (tj_r0 182 (by rfl)) (by rfl)
theorem N_183 : (Jvm.Cond.methodLinkNest "ThreeModeJournal$Memory" (50 : Nat) ({ cls := "ThreeModeJournal", name := "blocksNaming", desc := "(I)I" } : Jvm.MethodName) "ThreeModeJournal") ∈ tj_N := tj_n (tj_r0 183 (by rfl)) (by rfl)
theorem T_184 : (Jvm.Cond.static ({ cls := "ThreeModeJournal", name := "blocksNaming", desc := "(I)I" } : Jvm.MethodName)) ∈ tj_T := tj_t (tj_r0 184 (by rfl)) (by rfl)
theorem T_185 : (Jvm.Cond.code ({ cls := "ThreeModeJournal", name := "blocksNaming", desc := "(I)I" } : Jvm.MethodName) prog_1_method_27_code (1 : Nat) (Option.some Jvm.ClassFile.FieldType.int)) ∈ tj_T := tj_t (tj_r0 185 (by rfl)) (by rfl)
theorem T_186 : (Jvm.Cond.methodLink "ThreeModeJournal" (78 : Nat) ({ cls := "ThreeModeJournal", name := "commitRunning", desc := "()I" } : Jvm.MethodName)) ∈ tj_T := tj_t (tj_r0 186 (by rfl)) (by rfl)
theorem T_188 : (Jvm.Cond.instanceMethod ({ cls := "ThreeModeJournal", name := "commitRunning", desc := "()I" } : Jvm.MethodName)) ∈ tj_T := tj_t (tj_r0 188 (by rfl)) (by rfl)
theorem T_189 : (Jvm.Cond.code ({ cls := "ThreeModeJournal", name := "commitRunning", desc := "()I" } : Jvm.MethodName) prog_1_method_36_code (2 : Nat) (Option.some Jvm.ClassFile.FieldType.int)) ∈ tj_T := tj_t (tj_r0 189 (by rfl)) (by rfl)
theorem T_190 : (Jvm.Cond.methodLink "ThreeModeJournal" (92 : Nat) ({ cls := "ThreeModeJournal", name := "writeFirstDirty", desc := "(I)Z" } : Jvm.MethodName)) ∈ tj_T := tj_t (tj_r0 190 (by rfl)) (by rfl)
theorem T_192 : (Jvm.Cond.instanceMethod ({ cls := "ThreeModeJournal", name := "writeFirstDirty", desc := "(I)Z" } : Jvm.MethodName)) ∈ tj_T := tj_t (tj_r0 192 (by rfl)) (by rfl)
theorem T_193 : (Jvm.Cond.code ({ cls := "ThreeModeJournal", name := "writeFirstDirty", desc := "(I)Z" } : Jvm.MethodName) prog_1_method_37_code (3 : Nat) (Option.some Jvm.ClassFile.FieldType.boolean)) ∈ tj_T := tj_t (tj_r0 193 (by rfl)) (by rfl)
theorem T_194 : (Jvm.Cond.methodLink "ThreeModeJournal" (184 : Nat) ({ cls := "ThreeModeJournal$Memory", name := "dirtyAt", desc := "(I)I" } : Jvm.MethodName)) ∈ tj_T := tj_t (tj_r0 194 (by rfl)) (by rfl)
theorem T_195 : (Jvm.Cond.instanceMethod ({ cls := "ThreeModeJournal$Memory", name := "dirtyAt", desc := "(I)I" } : Jvm.MethodName)) ∈ tj_T := tj_t (tj_r0 195 (by rfl)) (by rfl)
theorem T_196 : (Jvm.Cond.selects "ThreeModeJournal$Memory" ({ cls := "ThreeModeJournal$Memory", name := "dirtyAt", desc := "(I)I" } : Jvm.MethodName) ({ cls := "ThreeModeJournal$Memory", name := "dirtyAt", desc := "(I)I" } : Jvm.MethodName)) ∈ tj_T := tj_t (tj_r0 196 (by rfl)) (by rfl)
theorem T_197 : (Jvm.Cond.code ({ cls := "ThreeModeJournal$Memory", name := "dirtyAt", desc := "(I)I" } : Jvm.MethodName) prog_4_method_17_code (2 : Nat) (Option.some Jvm.ClassFile.FieldType.int)) ∈ tj_T := tj_t (tj_r0 197 (by rfl)) (by rfl)
theorem T_198 : (Jvm.Cond.methodLink "ThreeModeJournal" (187 : Nat) ({ cls := "ThreeModeJournal", name := "writeDirtyHome", desc := "(I)Z" } : Jvm.MethodName)) ∈ tj_T := tj_t (tj_r0 198 (by rfl)) (by rfl)
theorem T_200 : (Jvm.Cond.instanceMethod ({ cls := "ThreeModeJournal", name := "writeDirtyHome", desc := "(I)Z" } : Jvm.MethodName)) ∈ tj_T := tj_t (tj_r0 200 (by rfl)) (by rfl)
theorem T_201 : (Jvm.Cond.code ({ cls := "ThreeModeJournal", name := "writeDirtyHome", desc := "(I)Z" } : Jvm.MethodName) prog_1_method_39_code (2 : Nat) (Option.some Jvm.ClassFile.FieldType.boolean)) ∈ tj_T := tj_t (tj_r0 201 (by rfl)) (by rfl)
theorem T_202 : (Jvm.Cond.methodLink "ThreeModeJournal" (196 : Nat) ({ cls := "ThreeModeJournal$Disk", name := "writeHome", desc := "(I[II)Z" } : Jvm.MethodName)) ∈ tj_T := tj_t (tj_r0 202 (by rfl)) (by rfl)
theorem T_203 : (Jvm.Cond.instanceMethod ({ cls := "ThreeModeJournal$Disk", name := "writeHome", desc := "(I[II)Z" } : Jvm.MethodName)) ∈ tj_T := tj_t (tj_r0 203 (by rfl)) (by rfl)
theorem T_204 : (Jvm.Cond.selects "ThreeModeJournal$Disk" ({ cls := "ThreeModeJournal$Disk", name := "writeHome", desc := "(I[II)Z" } : Jvm.MethodName) ({ cls := "ThreeModeJournal$Disk", name := "writeHome", desc := "(I[II)Z" } : Jvm.MethodName)) ∈ tj_T := tj_t (tj_r0 204 (by rfl)) (by rfl)
theorem T_205 : (Jvm.Cond.code ({ cls := "ThreeModeJournal$Disk", name := "writeHome", desc := "(I[II)Z" } : Jvm.MethodName) prog_2_method_2_code (4 : Nat) (Option.some Jvm.ClassFile.FieldType.boolean)) ∈ tj_T := tj_t (tj_r0 205 (by rfl)) (by rfl)
theorem T_206 : (Jvm.Cond.methodLink "ThreeModeJournal$Disk" (29 : Nat) ({ cls := "ThreeModeJournal$Power", name := "makeWrite", desc := "()Z" } : Jvm.MethodName)) ∈ tj_T := tj_t (tj_r0 206 (by rfl)) (by rfl)
theorem T_207 : (Jvm.Cond.instanceMethod ({ cls := "ThreeModeJournal$Power", name := "makeWrite", desc := "()Z" } : Jvm.MethodName)) ∈ tj_T := tj_t (tj_r0 207 (by rfl)) (by rfl)
theorem T_208 : (Jvm.Cond.selects "ThreeModeJournal$Power" ({ cls := "ThreeModeJournal$Power", name := "makeWrite", desc := "()Z" } : Jvm.MethodName) ({ cls := "ThreeModeJournal$Power", name := "makeWrite", desc := "()Z" } : Jvm.MethodName)) ∈ tj_T := tj_t (tj_r0 208 (by rfl)) (by rfl)
theorem T_209 : (Jvm.Cond.code ({ cls := "ThreeModeJournal$Power", name := "makeWrite", desc := "()Z" } : Jvm.MethodName) prog_5_method_2_code (1 : Nat) (Option.some Jvm.ClassFile.FieldType.boolean)) ∈ tj_T := tj_t (tj_r0 209 (by rfl)) (by rfl)
theorem N_210 : (Jvm.Cond.methodLinkNest "ThreeModeJournal$Disk" (33 : Nat) ({ cls := "ThreeModeJournal", name := "isBlock", desc := "(I)Z" } : Jvm.MethodName) "ThreeModeJournal") ∈ tj_N := tj_n (tj_r0 210 (by rfl)) (by rfl)
theorem T_211 : (Jvm.Cond.static ({ cls := "ThreeModeJournal", name := "isBlock", desc := "(I)Z" } : Jvm.MethodName)) ∈ tj_T := tj_t (tj_r0 211 (by rfl)) (by rfl)
theorem T_212 : (Jvm.Cond.code ({ cls := "ThreeModeJournal", name := "isBlock", desc := "(I)Z" } : Jvm.MethodName) prog_1_method_23_code (1 : Nat) (Option.some Jvm.ClassFile.FieldType.boolean)) ∈ tj_T := tj_t (tj_r0 212 (by rfl)) (by rfl)
theorem T_213 : (Jvm.Cond.methodLink "ThreeModeJournal$Disk" (37 : Nat) ({ cls := "java/lang/System", name := "arraycopy", desc := "(Ljava/lang/Object;ILjava/lang/Object;II)V" } : Jvm.MethodName)) ∈ tj_T := tj_t (tj_r0 213 (by rfl)) (by rfl)
theorem T_214 : (Jvm.Cond.static ({ cls := "java/lang/System", name := "arraycopy", desc := "(Ljava/lang/Object;ILjava/lang/Object;II)V" } : Jvm.MethodName)) ∈ tj_T := tj_t (tj_r0 214 (by rfl)) (by rfl)
theorem T_215 : (Jvm.Cond.native ({ cls := "java/lang/System", name := "arraycopy", desc := "(Ljava/lang/Object;ILjava/lang/Object;II)V" } : Jvm.MethodName)) ∈ tj_T := tj_t (tj_r0 215 (by rfl)) (by rfl)
theorem T_216 : (Jvm.Cond.methodLink "ThreeModeJournal" (200 : Nat) ({ cls := "ThreeModeJournal$Memory", name := "makeClean", desc := "(I)V" } : Jvm.MethodName)) ∈ tj_T := tj_t (tj_r0 216 (by rfl)) (by rfl)
theorem T_217 : (Jvm.Cond.instanceMethod ({ cls := "ThreeModeJournal$Memory", name := "makeClean", desc := "(I)V" } : Jvm.MethodName)) ∈ tj_T := tj_t (tj_r0 217 (by rfl)) (by rfl)
theorem T_218 : (Jvm.Cond.selects "ThreeModeJournal$Memory" ({ cls := "ThreeModeJournal$Memory", name := "makeClean", desc := "(I)V" } : Jvm.MethodName) ({ cls := "ThreeModeJournal$Memory", name := "makeClean", desc := "(I)V" } : Jvm.MethodName)) ∈ tj_T := tj_t (tj_r0 218 (by rfl)) (by rfl)
theorem T_219 : (Jvm.Cond.code ({ cls := "ThreeModeJournal$Memory", name := "makeClean", desc := "(I)V" } : Jvm.MethodName) prog_4_method_19_code (3 : Nat) (Option.none : Option Jvm.ClassFile.FieldType)) ∈ tj_T := tj_t (tj_r0 219 (by rfl)) (by rfl)
theorem T_220 : (Jvm.Cond.methodLink "ThreeModeJournal$Memory" (94 : Nat) ({ cls := "ThreeModeJournal$Memory", name := "dirtyPlace", desc := "(I)I" } : Jvm.MethodName)) ∈ tj_T := tj_t (tj_r0 220 (by rfl)) (by rfl)
theorem T_222 : (Jvm.Cond.instanceMethod ({ cls := "ThreeModeJournal$Memory", name := "dirtyPlace", desc := "(I)I" } : Jvm.MethodName)) ∈ tj_T := tj_t (tj_r0 222 (by rfl)) (by rfl)
theorem T_223 : (Jvm.Cond.code ({ cls := "ThreeModeJournal$Memory", name := "dirtyPlace", desc := "(I)I" } : Jvm.MethodName) prog_4_method_20_code (3 : Nat) (Option.some Jvm.ClassFile.FieldType.int)) ∈ tj_T := tj_t (tj_r0 223 (by rfl)) (by rfl)
theorem T_224 : (Jvm.Cond.methodLink "ThreeModeJournal$Memory" (31 : Nat) ({ cls := "java/lang/System", name := "arraycopy", desc := "(Ljava/lang/Object;ILjava/lang/Object;II)V" } : Jvm.MethodName)) ∈ tj_T := tj_t (tj_r0 224 (by rfl)) (by rfl)
theorem T_225 : (Jvm.Cond.methodLink "ThreeModeJournal" (174 : Nat) ({ cls := "ThreeModeJournal$Log", name := "oldestInTheWayOf", desc := "(I)I" } : Jvm.MethodName)) ∈ tj_T := tj_t (tj_r0 225 (by rfl)) (by rfl)
theorem T_226 : (Jvm.Cond.instanceMethod ({ cls := "ThreeModeJournal$Log", name := "oldestInTheWayOf", desc := "(I)I" } : Jvm.MethodName)) ∈ tj_T := tj_t (tj_r0 226 (by rfl)) (by rfl)
theorem T_227 : (Jvm.Cond.selects "ThreeModeJournal$Log" ({ cls := "ThreeModeJournal$Log", name := "oldestInTheWayOf", desc := "(I)I" } : Jvm.MethodName) ({ cls := "ThreeModeJournal$Log", name := "oldestInTheWayOf", desc := "(I)I" } : Jvm.MethodName)) ∈ tj_T := tj_t (tj_r0 227 (by rfl)) (by rfl)
theorem T_228 : (Jvm.Cond.code ({ cls := "ThreeModeJournal$Log", name := "oldestInTheWayOf", desc := "(I)I" } : Jvm.MethodName) prog_3_method_3_code (4 : Nat) (Option.some Jvm.ClassFile.FieldType.int)) ∈ tj_T := tj_t (tj_r0 228 (by rfl)) (by rfl)
theorem T_229 : (Jvm.Cond.methodLink "ThreeModeJournal$Log" (41 : Nat) ({ cls := "ThreeModeJournal$Log", name := "freePlaces", desc := "()I" } : Jvm.MethodName)) ∈ tj_T := tj_t (tj_r0 229 (by rfl)) (by rfl)
theorem T_230 : (Jvm.Cond.instanceMethod ({ cls := "ThreeModeJournal$Log", name := "freePlaces", desc := "()I" } : Jvm.MethodName)) ∈ tj_T := tj_t (tj_r0 230 (by rfl)) (by rfl)
theorem T_231 : (Jvm.Cond.selects "ThreeModeJournal$Log" ({ cls := "ThreeModeJournal$Log", name := "freePlaces", desc := "()I" } : Jvm.MethodName) ({ cls := "ThreeModeJournal$Log", name := "freePlaces", desc := "()I" } : Jvm.MethodName)) ∈ tj_T := tj_t (tj_r0 231 (by rfl)) (by rfl)
theorem T_232 : (Jvm.Cond.code ({ cls := "ThreeModeJournal$Log", name := "freePlaces", desc := "()I" } : Jvm.MethodName) prog_3_method_2_code (3 : Nat) (Option.some Jvm.ClassFile.FieldType.int)) ∈ tj_T := tj_t (tj_r0 232 (by rfl)) (by rfl)
theorem T_233 : (Jvm.Cond.methodLink "ThreeModeJournal$Log" (37 : Nat) ({ cls := "ThreeModeJournal$Log", name := "slot", desc := "(I)I" } : Jvm.MethodName)) ∈ tj_T := tj_t (tj_r0 233 (by rfl)) (by rfl)
theorem T_235 : (Jvm.Cond.instanceMethod ({ cls := "ThreeModeJournal$Log", name := "slot", desc := "(I)I" } : Jvm.MethodName)) ∈ tj_T := tj_t (tj_r0 235 (by rfl)) (by rfl)
theorem T_236 : (Jvm.Cond.code ({ cls := "ThreeModeJournal$Log", name := "slot", desc := "(I)I" } : Jvm.MethodName) prog_3_method_11_code (2 : Nat) (Option.some Jvm.ClassFile.FieldType.int)) ∈ tj_T := tj_t (tj_r0 236 (by rfl)) (by rfl)
theorem T_237 : (Jvm.Cond.methodLink "ThreeModeJournal" (107 : Nat) ({ cls := "ThreeModeJournal$Disk", name := "checkpointOldest", desc := "(I)Z" } : Jvm.MethodName)) ∈ tj_T := tj_t (tj_r0 237 (by rfl)) (by rfl)
theorem T_238 : (Jvm.Cond.instanceMethod ({ cls := "ThreeModeJournal$Disk", name := "checkpointOldest", desc := "(I)Z" } : Jvm.MethodName)) ∈ tj_T := tj_t (tj_r0 238 (by rfl)) (by rfl)
theorem T_239 : (Jvm.Cond.selects "ThreeModeJournal$Disk" ({ cls := "ThreeModeJournal$Disk", name := "checkpointOldest", desc := "(I)Z" } : Jvm.MethodName) ({ cls := "ThreeModeJournal$Disk", name := "checkpointOldest", desc := "(I)Z" } : Jvm.MethodName)) ∈ tj_T := tj_t (tj_r0 239 (by rfl)) (by rfl)
theorem T_240 : (Jvm.Cond.code ({ cls := "ThreeModeJournal$Disk", name := "checkpointOldest", desc := "(I)Z" } : Jvm.MethodName) prog_2_method_4_code (3 : Nat) (Option.some Jvm.ClassFile.FieldType.boolean)) ∈ tj_T := tj_t (tj_r1 0 (by rfl)) (by rfl)
theorem T_241 : (Jvm.Cond.methodLink "ThreeModeJournal$Disk" (47 : Nat) ({ cls := "ThreeModeJournal$Log", name := "liveCopies", desc := "(I)I" } : Jvm.MethodName)) ∈ tj_T := tj_t (tj_r1 1 (by rfl)) (by rfl)
theorem T_242 : (Jvm.Cond.instanceMethod ({ cls := "ThreeModeJournal$Log", name := "liveCopies", desc := "(I)I" } : Jvm.MethodName)) ∈ tj_T := tj_t (tj_r1 2 (by rfl)) (by rfl)
theorem T_243 : (Jvm.Cond.selects "ThreeModeJournal$Log" ({ cls := "ThreeModeJournal$Log", name := "liveCopies", desc := "(I)I" } : Jvm.MethodName) ({ cls := "ThreeModeJournal$Log", name := "liveCopies", desc := "(I)I" } : Jvm.MethodName)) ∈ tj_T := tj_t (tj_r1 3 (by rfl)) (by rfl)
theorem T_244 : (Jvm.Cond.code ({ cls := "ThreeModeJournal$Log", name := "liveCopies", desc := "(I)I" } : Jvm.MethodName) prog_3_method_4_code (2 : Nat) (Option.some Jvm.ClassFile.FieldType.int)) ∈ tj_T := tj_t (tj_r1 4 (by rfl)) (by rfl)
theorem T_245 : (Jvm.Cond.methodLink "ThreeModeJournal$Log" (45 : Nat) ({ cls := "ThreeModeJournal$Log", name := "unionBehind", desc := "(I[I)I" } : Jvm.MethodName)) ∈ tj_T := tj_t (tj_r1 5 (by rfl)) (by rfl)
theorem T_247 : (Jvm.Cond.instanceMethod ({ cls := "ThreeModeJournal$Log", name := "unionBehind", desc := "(I[I)I" } : Jvm.MethodName)) ∈ tj_T := tj_t (tj_r1 7 (by rfl)) (by rfl)
theorem T_248 : (Jvm.Cond.code ({ cls := "ThreeModeJournal$Log", name := "unionBehind", desc := "(I[I)I" } : Jvm.MethodName) prog_3_method_10_code (5 : Nat) (Option.some Jvm.ClassFile.FieldType.int)) ∈ tj_T := tj_t (tj_r1 8 (by rfl)) (by rfl)
theorem T_249 : (Jvm.Cond.methodLink "ThreeModeJournal$Disk" (51 : Nat) ({ cls := "ThreeModeJournal$Disk", name := "writeCopiesHome", desc := "(II)Z" } : Jvm.MethodName)) ∈ tj_T := tj_t (tj_r1 9 (by rfl)) (by rfl)
theorem T_251 : (Jvm.Cond.instanceMethod ({ cls := "ThreeModeJournal$Disk", name := "writeCopiesHome", desc := "(II)Z" } : Jvm.MethodName)) ∈ tj_T := tj_t (tj_r1 11 (by rfl)) (by rfl)
theorem T_252 : (Jvm.Cond.code ({ cls := "ThreeModeJournal$Disk", name := "writeCopiesHome", desc := "(II)Z" } : Jvm.MethodName) prog_2_method_6_code (4 : Nat) (Option.some Jvm.ClassFile.FieldType.boolean)) ∈ tj_T := tj_t (tj_r1 12 (by rfl)) (by rfl)
theorem N_253 : (Jvm.Cond.methodLinkNest "ThreeModeJournal$Disk" (65 : Nat) ({ cls := "ThreeModeJournal", name := "hasBlock", desc := "(II)Z" } : Jvm.MethodName) "ThreeModeJournal") ∈ tj_N := tj_n (tj_r1 13 (by rfl)) (by rfl)
theorem T_254 : (Jvm.Cond.static ({ cls := "ThreeModeJournal", name := "hasBlock", desc := "(II)Z" } : Jvm.MethodName)) ∈ tj_T := tj_t (tj_r1 14 (by rfl)) (by rfl)
theorem T_255 : (Jvm.Cond.code ({ cls := "ThreeModeJournal", name := "hasBlock", desc := "(II)Z" } : Jvm.MethodName) prog_1_method_26_code (2 : Nat) (Option.some Jvm.ClassFile.FieldType.boolean)) ∈ tj_T := tj_t (tj_r1 15 (by rfl)) (by rfl)
theorem T_256 : (Jvm.Cond.methodLink "ThreeModeJournal" (137 : Nat) ({ cls := "ThreeModeJournal", name := "isBlock", desc := "(I)Z" } : Jvm.MethodName)) ∈ tj_T := tj_t (tj_r1 16 (by rfl)) (by rfl)
theorem T_257 : (Jvm.Cond.methodLink "ThreeModeJournal$Disk" (71 : Nat) ({ cls := "ThreeModeJournal$Log", name := "copyOffset", desc := "(II)I" } : Jvm.MethodName)) ∈ tj_T := tj_t (tj_r1 17 (by rfl)) (by rfl)
theorem T_258 : (Jvm.Cond.instanceMethod ({ cls := "ThreeModeJournal$Log", name := "copyOffset", desc := "(II)I" } : Jvm.MethodName)) ∈ tj_T := tj_t (tj_r1 18 (by rfl)) (by rfl)
theorem T_259 : (Jvm.Cond.selects "ThreeModeJournal$Log" ({ cls := "ThreeModeJournal$Log", name := "copyOffset", desc := "(II)I" } : Jvm.MethodName) ({ cls := "ThreeModeJournal$Log", name := "copyOffset", desc := "(II)I" } : Jvm.MethodName)) ∈ tj_T := tj_t (tj_r1 19 (by rfl)) (by rfl)
theorem T_260 : (Jvm.Cond.code ({ cls := "ThreeModeJournal$Log", name := "copyOffset", desc := "(II)I" } : Jvm.MethodName) prog_3_method_7_code (5 : Nat) (Option.some Jvm.ClassFile.FieldType.int)) ∈ tj_T := tj_t (tj_r1 20 (by rfl)) (by rfl)
theorem T_261 : (Jvm.Cond.methodLink "ThreeModeJournal$Log" (56 : Nat) ({ cls := "java/lang/Integer", name := "bitCount", desc := "(I)I" } : Jvm.MethodName)) ∈ tj_T := tj_t (tj_r1 21 (by rfl)) (by rfl)
theorem T_262 : (Jvm.Cond.methodLink "ThreeModeJournal$Disk" (75 : Nat) ({ cls := "ThreeModeJournal$Disk", name := "writeHome", desc := "(I[II)Z" } : Jvm.MethodName)) ∈ tj_T := tj_t (tj_r1 22 (by rfl)) (by rfl)
theorem T_263 : (Jvm.Cond.methodLink "ThreeModeJournal$Disk" (55 : Nat) ({ cls := "ThreeModeJournal$Disk", name := "dropOldest", desc := "(I)Z" } : Jvm.MethodName)) ∈ tj_T := tj_t (tj_r1 23 (by rfl)) (by rfl)
theorem T_265 : (Jvm.Cond.instanceMethod ({ cls := "ThreeModeJournal$Disk", name := "dropOldest", desc := "(I)Z" } : Jvm.MethodName)) ∈ tj_T := tj_t (tj_r1 25 (by rfl)) (by rfl)
theorem T_266 : (Jvm.Cond.code ({ cls := "ThreeModeJournal$Disk", name := "dropOldest", desc := "(I)Z" } : Jvm.MethodName) prog_2_method_7_code (2 : Nat) (Option.some Jvm.ClassFile.FieldType.boolean)) ∈ tj_T := tj_t (tj_r1 26 (by rfl)) (by rfl)
theorem T_267 : (Jvm.Cond.methodLink "ThreeModeJournal$Disk" (79 : Nat) ({ cls := "ThreeModeJournal$Log", name := "forgetOldest", desc := "(I)V" } : Jvm.MethodName)) ∈ tj_T := tj_t (tj_r1 27 (by rfl)) (by rfl)
theorem T_268 : (Jvm.Cond.instanceMethod ({ cls := "ThreeModeJournal$Log", name := "forgetOldest", desc := "(I)V" } : Jvm.MethodName)) ∈ tj_T := tj_t (tj_r1 28 (by rfl)) (by rfl)
theorem T_269 : (Jvm.Cond.selects "ThreeModeJournal$Log" ({ cls := "ThreeModeJournal$Log", name := "forgetOldest", desc := "(I)V" } : Jvm.MethodName) ({ cls := "ThreeModeJournal$Log", name := "forgetOldest", desc := "(I)V" } : Jvm.MethodName)) ∈ tj_T := tj_t (tj_r1 29 (by rfl)) (by rfl)
theorem T_270 : (Jvm.Cond.code ({ cls := "ThreeModeJournal$Log", name := "forgetOldest", desc := "(I)V" } : Jvm.MethodName) prog_3_method_9_code (2 : Nat) (Option.none : Option Jvm.ClassFile.FieldType)) ∈ tj_T := tj_t (tj_r1 30 (by rfl)) (by rfl)
theorem T_271 : (Jvm.Cond.methodLink "ThreeModeJournal" (177 : Nat) ({ cls := "ThreeModeJournal$Disk", name := "writeTransaction", desc := "(ILThreeModeJournal$Memory;)Z" } : Jvm.MethodName)) ∈ tj_T := tj_t (tj_r1 31 (by rfl)) (by rfl)
theorem T_272 : (Jvm.Cond.instanceMethod ({ cls := "ThreeModeJournal$Disk", name := "writeTransaction", desc := "(ILThreeModeJournal$Memory;)Z" } : Jvm.MethodName)) ∈ tj_T := tj_t (tj_r1 32 (by rfl)) (by rfl)
theorem T_273 : (Jvm.Cond.selects "ThreeModeJournal$Disk" ({ cls := "ThreeModeJournal$Disk", name := "writeTransaction", desc := "(ILThreeModeJournal$Memory;)Z" } : Jvm.MethodName) ({ cls := "ThreeModeJournal$Disk", name := "writeTransaction", desc := "(ILThreeModeJournal$Memory;)Z" } : Jvm.MethodName)) ∈ tj_T := tj_t (tj_r1 33 (by rfl)) (by rfl)
theorem T_274 : (Jvm.Cond.code ({ cls := "ThreeModeJournal$Disk", name := "writeTransaction", desc := "(ILThreeModeJournal$Memory;)Z" } : Jvm.MethodName) prog_2_method_3_code (4 : Nat) (Option.some Jvm.ClassFile.FieldType.boolean)) ∈ tj_T := tj_t (tj_r1 34 (by rfl)) (by rfl)
theorem T_275 : (Jvm.Cond.methodLink "ThreeModeJournal$Disk" (43 : Nat) ({ cls := "ThreeModeJournal$Log", name := "append", desc := "(ILThreeModeJournal$Memory;)V" } : Jvm.MethodName)) ∈ tj_T := tj_t (tj_r1 35 (by rfl)) (by rfl)
theorem T_276 : (Jvm.Cond.instanceMethod ({ cls := "ThreeModeJournal$Log", name := "append", desc := "(ILThreeModeJournal$Memory;)V" } : Jvm.MethodName)) ∈ tj_T := tj_t (tj_r1 36 (by rfl)) (by rfl)
theorem T_277 : (Jvm.Cond.selects "ThreeModeJournal$Log" ({ cls := "ThreeModeJournal$Log", name := "append", desc := "(ILThreeModeJournal$Memory;)V" } : Jvm.MethodName) ({ cls := "ThreeModeJournal$Log", name := "append", desc := "(ILThreeModeJournal$Memory;)V" } : Jvm.MethodName)) ∈ tj_T := tj_t (tj_r1 37 (by rfl)) (by rfl)
theorem T_278 : (Jvm.Cond.code ({ cls := "ThreeModeJournal$Log", name := "append", desc := "(ILThreeModeJournal$Memory;)V" } : Jvm.MethodName) prog_3_method_8_code (5 : Nat) (Option.none : Option Jvm.ClassFile.FieldType)) ∈ tj_T := tj_t (tj_r1 38 (by rfl)) (by rfl)
theorem N_279 : (Jvm.Cond.methodLinkNest "ThreeModeJournal$Log" (52 : Nat) ({ cls := "ThreeModeJournal", name := "hasBlock", desc := "(II)Z" } : Jvm.MethodName) "ThreeModeJournal") ∈ tj_N := tj_n (tj_r1 39 (by rfl)) (by rfl)
theorem T_280 : (Jvm.Cond.methodLink "ThreeModeJournal$Log" (69 : Nat) ({ cls := "ThreeModeJournal$Log", name := "copyOffset", desc := "(II)I" } : Jvm.MethodName)) ∈ tj_T := tj_t (tj_r1 40 (by rfl)) (by rfl)
theorem T_281 : (Jvm.Cond.methodLink "ThreeModeJournal$Log" (73 : Nat) ({ cls := "java/lang/System", name := "arraycopy", desc := "(Ljava/lang/Object;ILjava/lang/Object;II)V" } : Jvm.MethodName)) ∈ tj_T := tj_t (tj_r1 41 (by rfl)) (by rfl)
theorem T_282 : (Jvm.Cond.methodLink "ThreeModeJournal" (181 : Nat) ({ cls := "ThreeModeJournal$Memory", name := "startTransaction", desc := "()V" } : Jvm.MethodName)) ∈ tj_T := tj_t (tj_r1 42 (by rfl)) (by rfl)
theorem T_283 : (Jvm.Cond.instanceMethod ({ cls := "ThreeModeJournal$Memory", name := "startTransaction", desc := "()V" } : Jvm.MethodName)) ∈ tj_T := tj_t (tj_r1 43 (by rfl)) (by rfl)
theorem T_284 : (Jvm.Cond.selects "ThreeModeJournal$Memory" ({ cls := "ThreeModeJournal$Memory", name := "startTransaction", desc := "()V" } : Jvm.MethodName) ({ cls := "ThreeModeJournal$Memory", name := "startTransaction", desc := "()V" } : Jvm.MethodName)) ∈ tj_T := tj_t (tj_r1 44 (by rfl)) (by rfl)
theorem T_285 : (Jvm.Cond.code ({ cls := "ThreeModeJournal$Memory", name := "startTransaction", desc := "()V" } : Jvm.MethodName) prog_4_method_3_code (1 : Nat) (Option.none : Option Jvm.ClassFile.FieldType)) ∈ tj_T := tj_t (tj_r1 45 (by rfl)) (by rfl)
theorem T_286 : (Jvm.Cond.methodLink "ThreeModeJournal" (58 : Nat) ({ cls := "ThreeModeJournal", name := "growByOne", desc := "(II)V" } : Jvm.MethodName)) ∈ tj_T := tj_t (tj_r1 46 (by rfl)) (by rfl)
theorem T_288 : (Jvm.Cond.instanceMethod ({ cls := "ThreeModeJournal", name := "growByOne", desc := "(II)V" } : Jvm.MethodName)) ∈ tj_T := tj_t (tj_r1 48 (by rfl)) (by rfl)
theorem T_289 : (Jvm.Cond.code ({ cls := "ThreeModeJournal", name := "growByOne", desc := "(II)V" } : Jvm.MethodName) prog_1_method_30_code (3 : Nat) (Option.none : Option Jvm.ClassFile.FieldType)) ∈ tj_T := tj_t (tj_r1 49 (by rfl)) (by rfl)
theorem T_290 : (Jvm.Cond.methodLink "ThreeModeJournal" (140 : Nat) ({ cls := "ThreeModeJournal", name := "addDataBlock", desc := "(II)V" } : Jvm.MethodName)) ∈ tj_T := tj_t (tj_r1 50 (by rfl)) (by rfl)
theorem T_292 : (Jvm.Cond.instanceMethod ({ cls := "ThreeModeJournal", name := "addDataBlock", desc := "(II)V" } : Jvm.MethodName)) ∈ tj_T := tj_t (tj_r1 52 (by rfl)) (by rfl)
theorem T_293 : (Jvm.Cond.code ({ cls := "ThreeModeJournal", name := "addDataBlock", desc := "(II)V" } : Jvm.MethodName) prog_1_method_31_code (3 : Nat) (Option.none : Option Jvm.ClassFile.FieldType)) ∈ tj_T := tj_t (tj_r1 53 (by rfl)) (by rfl)
theorem T_294 : (Jvm.Cond.methodLink "ThreeModeJournal" (150 : Nat) ({ cls := "ThreeModeJournal$Memory", name := "takeBlock", desc := "()I" } : Jvm.MethodName)) ∈ tj_T := tj_t (tj_r1 54 (by rfl)) (by rfl)
theorem T_295 : (Jvm.Cond.instanceMethod ({ cls := "ThreeModeJournal$Memory", name := "takeBlock", desc := "()I" } : Jvm.MethodName)) ∈ tj_T := tj_t (tj_r1 55 (by rfl)) (by rfl)
theorem T_296 : (Jvm.Cond.selects "ThreeModeJournal$Memory" ({ cls := "ThreeModeJournal$Memory", name := "takeBlock", desc := "()I" } : Jvm.MethodName) ({ cls := "ThreeModeJournal$Memory", name := "takeBlock", desc := "()I" } : Jvm.MethodName)) ∈ tj_T := tj_t (tj_r1 56 (by rfl)) (by rfl)
theorem T_297 : (Jvm.Cond.code ({ cls := "ThreeModeJournal$Memory", name := "takeBlock", desc := "()I" } : Jvm.MethodName) prog_4_method_15_code (3 : Nat) (Option.some Jvm.ClassFile.FieldType.int)) ∈ tj_T := tj_t (tj_r1 57 (by rfl)) (by rfl)
theorem T_298 : (Jvm.Cond.methodLink "ThreeModeJournal$Memory" (61 : Nat) ({ cls := "ThreeModeJournal$Memory", name := "setWord", desc := "(III)V" } : Jvm.MethodName)) ∈ tj_T := tj_t (tj_r1 58 (by rfl)) (by rfl)
theorem T_299 : (Jvm.Cond.instanceMethod ({ cls := "ThreeModeJournal$Memory", name := "setWord", desc := "(III)V" } : Jvm.MethodName)) ∈ tj_T := tj_t (tj_r1 59 (by rfl)) (by rfl)
theorem T_300 : (Jvm.Cond.selects "ThreeModeJournal$Memory" ({ cls := "ThreeModeJournal$Memory", name := "setWord", desc := "(III)V" } : Jvm.MethodName) ({ cls := "ThreeModeJournal$Memory", name := "setWord", desc := "(III)V" } : Jvm.MethodName)) ∈ tj_T := tj_t (tj_r1 60 (by rfl)) (by rfl)
theorem T_301 : (Jvm.Cond.code ({ cls := "ThreeModeJournal$Memory", name := "setWord", desc := "(III)V" } : Jvm.MethodName) prog_4_method_6_code (4 : Nat) (Option.none : Option Jvm.ClassFile.FieldType)) ∈ tj_T := tj_t (tj_r1 61 (by rfl)) (by rfl)
theorem T_302 : (Jvm.Cond.methodLink "ThreeModeJournal$Memory" (65 : Nat) ({ cls := "ThreeModeJournal$Memory", name := "join", desc := "(I)V" } : Jvm.MethodName)) ∈ tj_T := tj_t (tj_r1 62 (by rfl)) (by rfl)
theorem T_303 : (Jvm.Cond.instanceMethod ({ cls := "ThreeModeJournal$Memory", name := "join", desc := "(I)V" } : Jvm.MethodName)) ∈ tj_T := tj_t (tj_r1 63 (by rfl)) (by rfl)
theorem T_304 : (Jvm.Cond.selects "ThreeModeJournal$Memory" ({ cls := "ThreeModeJournal$Memory", name := "join", desc := "(I)V" } : Jvm.MethodName) ({ cls := "ThreeModeJournal$Memory", name := "join", desc := "(I)V" } : Jvm.MethodName)) ∈ tj_T := tj_t (tj_r1 64 (by rfl)) (by rfl)
theorem T_305 : (Jvm.Cond.code ({ cls := "ThreeModeJournal$Memory", name := "join", desc := "(I)V" } : Jvm.MethodName) prog_4_method_12_code (2 : Nat) (Option.none : Option Jvm.ClassFile.FieldType)) ∈ tj_T := tj_t (tj_r1 65 (by rfl)) (by rfl)
theorem N_306 : (Jvm.Cond.methodLinkNest "ThreeModeJournal$Memory" (78 : Nat) ({ cls := "ThreeModeJournal", name := "isBlock", desc := "(I)Z" } : Jvm.MethodName) "ThreeModeJournal") ∈ tj_N := tj_n (tj_r1 66 (by rfl)) (by rfl)
theorem T_307 : (Jvm.Cond.methodLink "ThreeModeJournal$Memory" (85 : Nat) ({ cls := "ThreeModeJournal$Memory", name := "clearWords", desc := "(I)V" } : Jvm.MethodName)) ∈ tj_T := tj_t (tj_r1 67 (by rfl)) (by rfl)
theorem T_309 : (Jvm.Cond.instanceMethod ({ cls := "ThreeModeJournal$Memory", name := "clearWords", desc := "(I)V" } : Jvm.MethodName)) ∈ tj_T := tj_t (tj_r1 69 (by rfl)) (by rfl)
theorem T_310 : (Jvm.Cond.code ({ cls := "ThreeModeJournal$Memory", name := "clearWords", desc := "(I)V" } : Jvm.MethodName) prog_4_method_23_code (3 : Nat) (Option.none : Option Jvm.ClassFile.FieldType)) ∈ tj_T := tj_t (tj_r1 70 (by rfl)) (by rfl)
theorem T_311 : (Jvm.Cond.methodLink "ThreeModeJournal" (143 : Nat) ({ cls := "ThreeModeJournal$Memory", name := "setWord", desc := "(III)V" } : Jvm.MethodName)) ∈ tj_T := tj_t (tj_r1 71 (by rfl)) (by rfl)
theorem T_312 : (Jvm.Cond.methodLink "ThreeModeJournal" (153 : Nat) ({ cls := "ThreeModeJournal$Memory", name := "putDataBlock", desc := "(III)V" } : Jvm.MethodName)) ∈ tj_T := tj_t (tj_r1 72 (by rfl)) (by rfl)
theorem T_313 : (Jvm.Cond.instanceMethod ({ cls := "ThreeModeJournal$Memory", name := "putDataBlock", desc := "(III)V" } : Jvm.MethodName)) ∈ tj_T := tj_t (tj_r1 73 (by rfl)) (by rfl)
theorem T_314 : (Jvm.Cond.selects "ThreeModeJournal$Memory" ({ cls := "ThreeModeJournal$Memory", name := "putDataBlock", desc := "(III)V" } : Jvm.MethodName) ({ cls := "ThreeModeJournal$Memory", name := "putDataBlock", desc := "(III)V" } : Jvm.MethodName)) ∈ tj_T := tj_t (tj_r1 74 (by rfl)) (by rfl)
theorem T_315 : (Jvm.Cond.code ({ cls := "ThreeModeJournal$Memory", name := "putDataBlock", desc := "(III)V" } : Jvm.MethodName) prog_4_method_9_code (5 : Nat) (Option.none : Option Jvm.ClassFile.FieldType)) ∈ tj_T := tj_t (tj_r1 75 (by rfl)) (by rfl)
theorem T_316 : (Jvm.Cond.methodLink "ThreeModeJournal" (146 : Nat) ({ cls := "ThreeModeJournal$Memory", name := "join", desc := "(I)V" } : Jvm.MethodName)) ∈ tj_T := tj_t (tj_r1 76 (by rfl)) (by rfl)
theorem T_317 : (Jvm.Cond.methodLink "ThreeModeJournal" (62 : Nat) ({ cls := "ThreeModeJournal", name := "setDataWord", desc := "(III)V" } : Jvm.MethodName)) ∈ tj_T := tj_t (tj_r1 77 (by rfl)) (by rfl)
theorem T_319 : (Jvm.Cond.instanceMethod ({ cls := "ThreeModeJournal", name := "setDataWord", desc := "(III)V" } : Jvm.MethodName)) ∈ tj_T := tj_t (tj_r1 79 (by rfl)) (by rfl)
theorem T_320 : (Jvm.Cond.code ({ cls := "ThreeModeJournal", name := "setDataWord", desc := "(III)V" } : Jvm.MethodName) prog_1_method_32_code (5 : Nat) (Option.none : Option Jvm.ClassFile.FieldType)) ∈ tj_T := tj_t (tj_r1 80 (by rfl)) (by rfl)
theorem T_321 : (Jvm.Cond.methodLink "ThreeModeJournal" (72 : Nat) ({ cls := "ThreeModeJournal$Memory", name := "dataBlock", desc := "(II)I" } : Jvm.MethodName)) ∈ tj_T := tj_t (tj_r1 81 (by rfl)) (by rfl)
theorem T_322 : (Jvm.Cond.instanceMethod ({ cls := "ThreeModeJournal$Memory", name := "dataBlock", desc := "(II)I" } : Jvm.MethodName)) ∈ tj_T := tj_t (tj_r1 82 (by rfl)) (by rfl)
theorem T_323 : (Jvm.Cond.selects "ThreeModeJournal$Memory" ({ cls := "ThreeModeJournal$Memory", name := "dataBlock", desc := "(II)I" } : Jvm.MethodName) ({ cls := "ThreeModeJournal$Memory", name := "dataBlock", desc := "(II)I" } : Jvm.MethodName)) ∈ tj_T := tj_t (tj_r1 83 (by rfl)) (by rfl)
theorem T_324 : (Jvm.Cond.code ({ cls := "ThreeModeJournal$Memory", name := "dataBlock", desc := "(II)I" } : Jvm.MethodName) prog_4_method_8_code (3 : Nat) (Option.some Jvm.ClassFile.FieldType.int)) ∈ tj_T := tj_t (tj_r1 84 (by rfl)) (by rfl)
theorem T_325 : (Jvm.Cond.methodLink "ThreeModeJournal" (156 : Nat) ({ cls := "ThreeModeJournal$Memory", name := "makeDirty", desc := "(I)V" } : Jvm.MethodName)) ∈ tj_T := tj_t (tj_r1 85 (by rfl)) (by rfl)
theorem T_326 : (Jvm.Cond.instanceMethod ({ cls := "ThreeModeJournal$Memory", name := "makeDirty", desc := "(I)V" } : Jvm.MethodName)) ∈ tj_T := tj_t (tj_r1 86 (by rfl)) (by rfl)
theorem T_327 : (Jvm.Cond.selects "ThreeModeJournal$Memory" ({ cls := "ThreeModeJournal$Memory", name := "makeDirty", desc := "(I)V" } : Jvm.MethodName) ({ cls := "ThreeModeJournal$Memory", name := "makeDirty", desc := "(I)V" } : Jvm.MethodName)) ∈ tj_T := tj_t (tj_r1 87 (by rfl)) (by rfl)
theorem T_328 : (Jvm.Cond.code ({ cls := "ThreeModeJournal$Memory", name := "makeDirty", desc := "(I)V" } : Jvm.MethodName) prog_4_method_18_code (2 : Nat) (Option.none : Option Jvm.ClassFile.FieldType)) ∈ tj_T := tj_t (tj_r1 88 (by rfl)) (by rfl)
theorem N_329 : (Jvm.Cond.methodLinkNest "ThreeModeJournal$Memory" (88 : Nat) ({ cls := "ThreeModeJournal", name := "isPoolBlock", desc := "(I)Z" } : Jvm.MethodName) "ThreeModeJournal") ∈ tj_N := tj_n (tj_r1 89 (by rfl)) (by rfl)
theorem T_330 : (Jvm.Cond.static ({ cls := "ThreeModeJournal", name := "isPoolBlock", desc := "(I)Z" } : Jvm.MethodName)) ∈ tj_T := tj_t (tj_r1 90 (by rfl)) (by rfl)
theorem T_331 : (Jvm.Cond.code ({ cls := "ThreeModeJournal", name := "isPoolBlock", desc := "(I)Z" } : Jvm.MethodName) prog_1_method_24_code (1 : Nat) (Option.some Jvm.ClassFile.FieldType.boolean)) ∈ tj_T := tj_t (tj_r1 91 (by rfl)) (by rfl)
theorem T_332 : (Jvm.Cond.methodLink "ThreeModeJournalLaw" (18 : Nat) ({ cls := "ThreeModeJournal", name := "cut", desc := "(II)Z" } : Jvm.MethodName)) ∈ tj_T := tj_t (tj_r1 92 (by rfl)) (by rfl)
theorem T_333 : (Jvm.Cond.instanceMethod ({ cls := "ThreeModeJournal", name := "cut", desc := "(II)Z" } : Jvm.MethodName)) ∈ tj_T := tj_t (tj_r1 93 (by rfl)) (by rfl)
theorem T_334 : (Jvm.Cond.selects "ThreeModeJournal" ({ cls := "ThreeModeJournal", name := "cut", desc := "(II)Z" } : Jvm.MethodName) ({ cls := "ThreeModeJournal", name := "cut", desc := "(II)Z" } : Jvm.MethodName)) ∈ tj_T := tj_t (tj_r1 94 (by rfl)) (by rfl)
theorem T_335 : (Jvm.Cond.code ({ cls := "ThreeModeJournal", name := "cut", desc := "(II)Z" } : Jvm.MethodName) prog_1_method_3_code (3 : Nat) (Option.some Jvm.ClassFile.FieldType.boolean)) ∈ tj_T := tj_t (tj_r1 95 (by rfl)) (by rfl)
theorem T_336 : (Jvm.Cond.methodLink "ThreeModeJournal" (66 : Nat) ({ cls := "ThreeModeJournal", name := "shorten", desc := "(II)V" } : Jvm.MethodName)) ∈ tj_T := tj_t (tj_r1 96 (by rfl)) (by rfl)
theorem T_338 : (Jvm.Cond.instanceMethod ({ cls := "ThreeModeJournal", name := "shorten", desc := "(II)V" } : Jvm.MethodName)) ∈ tj_T := tj_t (tj_r1 98 (by rfl)) (by rfl)
theorem T_339 : (Jvm.Cond.code ({ cls := "ThreeModeJournal", name := "shorten", desc := "(II)V" } : Jvm.MethodName) prog_1_method_33_code (6 : Nat) (Option.none : Option Jvm.ClassFile.FieldType)) ∈ tj_T := tj_t (tj_r1 99 (by rfl)) (by rfl)
theorem T_340 : (Jvm.Cond.methodLink "ThreeModeJournal" (159 : Nat) ({ cls := "ThreeModeJournal", name := "dataBlocksFor", desc := "(I)I" } : Jvm.MethodName)) ∈ tj_T := tj_t (tj_r1 100 (by rfl)) (by rfl)
theorem T_341 : (Jvm.Cond.static ({ cls := "ThreeModeJournal", name := "dataBlocksFor", desc := "(I)I" } : Jvm.MethodName)) ∈ tj_T := tj_t (tj_r1 101 (by rfl)) (by rfl)
theorem T_342 : (Jvm.Cond.code ({ cls := "ThreeModeJournal", name := "dataBlocksFor", desc := "(I)I" } : Jvm.MethodName) prog_1_method_28_code (1 : Nat) (Option.some Jvm.ClassFile.FieldType.int)) ∈ tj_T := tj_t (tj_r1 102 (by rfl)) (by rfl)
theorem T_343 : (Jvm.Cond.methodLink "ThreeModeJournal" (162 : Nat) ({ cls := "ThreeModeJournal$Memory", name := "freeBlock", desc := "(I)V" } : Jvm.MethodName)) ∈ tj_T := tj_t (tj_r1 103 (by rfl)) (by rfl)
theorem T_344 : (Jvm.Cond.instanceMethod ({ cls := "ThreeModeJournal$Memory", name := "freeBlock", desc := "(I)V" } : Jvm.MethodName)) ∈ tj_T := tj_t (tj_r1 104 (by rfl)) (by rfl)
theorem T_345 : (Jvm.Cond.selects "ThreeModeJournal$Memory" ({ cls := "ThreeModeJournal$Memory", name := "freeBlock", desc := "(I)V" } : Jvm.MethodName) ({ cls := "ThreeModeJournal$Memory", name := "freeBlock", desc := "(I)V" } : Jvm.MethodName)) ∈ tj_T := tj_t (tj_r1 105 (by rfl)) (by rfl)
theorem T_346 : (Jvm.Cond.code ({ cls := "ThreeModeJournal$Memory", name := "freeBlock", desc := "(I)V" } : Jvm.MethodName) prog_4_method_16_code (2 : Nat) (Option.none : Option Jvm.ClassFile.FieldType)) ∈ tj_T := tj_t (tj_r1 106 (by rfl)) (by rfl)
theorem T_347 : (Jvm.Cond.methodLink "ThreeModeJournal$Memory" (91 : Nat) ({ cls := "ThreeModeJournal$Memory", name := "makeClean", desc := "(I)V" } : Jvm.MethodName)) ∈ tj_T := tj_t (tj_r1 107 (by rfl)) (by rfl)
theorem T_348 : (Jvm.Cond.methodLink "ThreeModeJournal" (165 : Nat) ({ cls := "ThreeModeJournal", name := "freeIndex", desc := "(I)V" } : Jvm.MethodName)) ∈ tj_T := tj_t (tj_r1 108 (by rfl)) (by rfl)
theorem T_350 : (Jvm.Cond.instanceMethod ({ cls := "ThreeModeJournal", name := "freeIndex", desc := "(I)V" } : Jvm.MethodName)) ∈ tj_T := tj_t (tj_r1 110 (by rfl)) (by rfl)
theorem T_351 : (Jvm.Cond.code ({ cls := "ThreeModeJournal", name := "freeIndex", desc := "(I)V" } : Jvm.MethodName) prog_1_method_34_code (3 : Nat) (Option.none : Option Jvm.ClassFile.FieldType)) ∈ tj_T := tj_t (tj_r1 111 (by rfl)) (by rfl)
theorem T_352 : (Jvm.Cond.methodLink "ThreeModeJournal" (75 : Nat) ({ cls := "ThreeModeJournal$Memory", name := "word", desc := "(II)I" } : Jvm.MethodName)) ∈ tj_T := tj_t (tj_r1 112 (by rfl)) (by rfl)
theorem T_353 : (Jvm.Cond.methodLink "ThreeModeJournal" (168 : Nat) ({ cls := "ThreeModeJournal$Log", name := "hasLiveCopy", desc := "(I)Z" } : Jvm.MethodName)) ∈ tj_T := tj_t (tj_r1 113 (by rfl)) (by rfl)
theorem T_354 : (Jvm.Cond.instanceMethod ({ cls := "ThreeModeJournal$Log", name := "hasLiveCopy", desc := "(I)Z" } : Jvm.MethodName)) ∈ tj_T := tj_t (tj_r1 114 (by rfl)) (by rfl)
theorem T_355 : (Jvm.Cond.selects "ThreeModeJournal$Log" ({ cls := "ThreeModeJournal$Log", name := "hasLiveCopy", desc := "(I)Z" } : Jvm.MethodName) ({ cls := "ThreeModeJournal$Log", name := "hasLiveCopy", desc := "(I)Z" } : Jvm.MethodName)) ∈ tj_T := tj_t (tj_r1 115 (by rfl)) (by rfl)
theorem T_356 : (Jvm.Cond.code ({ cls := "ThreeModeJournal$Log", name := "hasLiveCopy", desc := "(I)Z" } : Jvm.MethodName) prog_3_method_6_code (3 : Nat) (Option.some Jvm.ClassFile.FieldType.boolean)) ∈ tj_T := tj_t (tj_r1 116 (by rfl)) (by rfl)
theorem T_357 : (Jvm.Cond.methodLink "ThreeModeJournal$Log" (49 : Nat) ({ cls := "ThreeModeJournal$Log", name := "liveCopies", desc := "(I)I" } : Jvm.MethodName)) ∈ tj_T := tj_t (tj_r1 117 (by rfl)) (by rfl)
theorem T_358 : (Jvm.Cond.methodLink "ThreeModeJournal" (171 : Nat) ({ cls := "ThreeModeJournal$Memory", name := "revoke", desc := "(I)V" } : Jvm.MethodName)) ∈ tj_T := tj_t (tj_r1 118 (by rfl)) (by rfl)
theorem T_359 : (Jvm.Cond.instanceMethod ({ cls := "ThreeModeJournal$Memory", name := "revoke", desc := "(I)V" } : Jvm.MethodName)) ∈ tj_T := tj_t (tj_r1 119 (by rfl)) (by rfl)
theorem T_360 : (Jvm.Cond.selects "ThreeModeJournal$Memory" ({ cls := "ThreeModeJournal$Memory", name := "revoke", desc := "(I)V" } : Jvm.MethodName) ({ cls := "ThreeModeJournal$Memory", name := "revoke", desc := "(I)V" } : Jvm.MethodName)) ∈ tj_T := tj_t (tj_r1 120 (by rfl)) (by rfl)
theorem T_361 : (Jvm.Cond.code ({ cls := "ThreeModeJournal$Memory", name := "revoke", desc := "(I)V" } : Jvm.MethodName) prog_4_method_13_code (2 : Nat) (Option.none : Option Jvm.ClassFile.FieldType)) ∈ tj_T := tj_t (tj_r1 121 (by rfl)) (by rfl)
theorem T_362 : (Jvm.Cond.methodLink "ThreeModeJournalLaw" (23 : Nat) ({ cls := "ThreeModeJournal", name := "rename", desc := "(II)Z" } : Jvm.MethodName)) ∈ tj_T := tj_t (tj_r1 122 (by rfl)) (by rfl)
theorem T_363 : (Jvm.Cond.instanceMethod ({ cls := "ThreeModeJournal", name := "rename", desc := "(II)Z" } : Jvm.MethodName)) ∈ tj_T := tj_t (tj_r1 123 (by rfl)) (by rfl)
theorem T_364 : (Jvm.Cond.selects "ThreeModeJournal" ({ cls := "ThreeModeJournal", name := "rename", desc := "(II)Z" } : Jvm.MethodName) ({ cls := "ThreeModeJournal", name := "rename", desc := "(II)Z" } : Jvm.MethodName)) ∈ tj_T := tj_t (tj_r1 124 (by rfl)) (by rfl)
theorem T_365 : (Jvm.Cond.code ({ cls := "ThreeModeJournal", name := "rename", desc := "(II)Z" } : Jvm.MethodName) prog_1_method_4_code (3 : Nat) (Option.some Jvm.ClassFile.FieldType.boolean)) ∈ tj_T := tj_t (tj_r1 125 (by rfl)) (by rfl)
theorem T_366 : (Jvm.Cond.methodLink "ThreeModeJournal" (69 : Nat) ({ cls := "ThreeModeJournal$Memory", name := "moveInode", desc := "(II)V" } : Jvm.MethodName)) ∈ tj_T := tj_t (tj_r1 126 (by rfl)) (by rfl)
theorem T_367 : (Jvm.Cond.instanceMethod ({ cls := "ThreeModeJournal$Memory", name := "moveInode", desc := "(II)V" } : Jvm.MethodName)) ∈ tj_T := tj_t (tj_r1 127 (by rfl)) (by rfl)
theorem T_368 : (Jvm.Cond.selects "ThreeModeJournal$Memory" ({ cls := "ThreeModeJournal$Memory", name := "moveInode", desc := "(II)V" } : Jvm.MethodName) ({ cls := "ThreeModeJournal$Memory", name := "moveInode", desc := "(II)V" } : Jvm.MethodName)) ∈ tj_T := tj_t (tj_r1 128 (by rfl)) (by rfl)
theorem T_369 : (Jvm.Cond.code ({ cls := "ThreeModeJournal$Memory", name := "moveInode", desc := "(II)V" } : Jvm.MethodName) prog_4_method_11_code (4 : Nat) (Option.none : Option Jvm.ClassFile.FieldType)) ∈ tj_T := tj_t (tj_r1 129 (by rfl)) (by rfl)
theorem T_370 : (Jvm.Cond.methodLink "ThreeModeJournalLaw" (27 : Nat) ({ cls := "ThreeModeJournal", name := "read", desc := "(II)I" } : Jvm.MethodName)) ∈ tj_T := tj_t (tj_r1 130 (by rfl)) (by rfl)
theorem T_371 : (Jvm.Cond.instanceMethod ({ cls := "ThreeModeJournal", name := "read", desc := "(II)I" } : Jvm.MethodName)) ∈ tj_T := tj_t (tj_r1 131 (by rfl)) (by rfl)
theorem T_372 : (Jvm.Cond.selects "ThreeModeJournal" ({ cls := "ThreeModeJournal", name := "read", desc := "(II)I" } : Jvm.MethodName) ({ cls := "ThreeModeJournal", name := "read", desc := "(II)I" } : Jvm.MethodName)) ∈ tj_T := tj_t (tj_r1 132 (by rfl)) (by rfl)
theorem T_373 : (Jvm.Cond.code ({ cls := "ThreeModeJournal", name := "read", desc := "(II)I" } : Jvm.MethodName) prog_1_method_5_code (3 : Nat) (Option.some Jvm.ClassFile.FieldType.int)) ∈ tj_T := tj_t (tj_r1 133 (by rfl)) (by rfl)
theorem T_374 : (Jvm.Cond.methodLink "ThreeModeJournalLaw" (32 : Nat) ({ cls := "ThreeModeJournal", name := "length", desc := "(I)I" } : Jvm.MethodName)) ∈ tj_T := tj_t (tj_r1 134 (by rfl)) (by rfl)
theorem T_375 : (Jvm.Cond.instanceMethod ({ cls := "ThreeModeJournal", name := "length", desc := "(I)I" } : Jvm.MethodName)) ∈ tj_T := tj_t (tj_r1 135 (by rfl)) (by rfl)
theorem T_376 : (Jvm.Cond.selects "ThreeModeJournal" ({ cls := "ThreeModeJournal", name := "length", desc := "(I)I" } : Jvm.MethodName) ({ cls := "ThreeModeJournal", name := "length", desc := "(I)I" } : Jvm.MethodName)) ∈ tj_T := tj_t (tj_r1 136 (by rfl)) (by rfl)
theorem T_377 : (Jvm.Cond.code ({ cls := "ThreeModeJournal", name := "length", desc := "(I)I" } : Jvm.MethodName) prog_1_method_6_code (2 : Nat) (Option.some Jvm.ClassFile.FieldType.int)) ∈ tj_T := tj_t (tj_r1 137 (by rfl)) (by rfl)
theorem T_378 : (Jvm.Cond.methodLink "ThreeModeJournalLaw" (37 : Nat) ({ cls := "ThreeModeJournal", name := "commit", desc := "()I" } : Jvm.MethodName)) ∈ tj_T := tj_t (tj_r1 138 (by rfl)) (by rfl)
theorem T_379 : (Jvm.Cond.instanceMethod ({ cls := "ThreeModeJournal", name := "commit", desc := "()I" } : Jvm.MethodName)) ∈ tj_T := tj_t (tj_r1 139 (by rfl)) (by rfl)
theorem T_380 : (Jvm.Cond.selects "ThreeModeJournal" ({ cls := "ThreeModeJournal", name := "commit", desc := "()I" } : Jvm.MethodName) ({ cls := "ThreeModeJournal", name := "commit", desc := "()I" } : Jvm.MethodName)) ∈ tj_T := tj_t (tj_r1 140 (by rfl)) (by rfl)
theorem T_381 : (Jvm.Cond.code ({ cls := "ThreeModeJournal", name := "commit", desc := "()I" } : Jvm.MethodName) prog_1_method_7_code (1 : Nat) (Option.some Jvm.ClassFile.FieldType.int)) ∈ tj_T := tj_t (tj_r1 141 (by rfl)) (by rfl)
theorem T_382 : (Jvm.Cond.methodLink "ThreeModeJournalLaw" (42 : Nat) ({ cls := "ThreeModeJournal", name := "sync", desc := "(I)Z" } : Jvm.MethodName)) ∈ tj_T := tj_t (tj_r1 142 (by rfl)) (by rfl)
theorem T_383 : (Jvm.Cond.instanceMethod ({ cls := "ThreeModeJournal", name := "sync", desc := "(I)Z" } : Jvm.MethodName)) ∈ tj_T := tj_t (tj_r1 143 (by rfl)) (by rfl)
theorem T_384 : (Jvm.Cond.selects "ThreeModeJournal" ({ cls := "ThreeModeJournal", name := "sync", desc := "(I)Z" } : Jvm.MethodName) ({ cls := "ThreeModeJournal", name := "sync", desc := "(I)Z" } : Jvm.MethodName)) ∈ tj_T := tj_t (tj_r1 144 (by rfl)) (by rfl)
theorem T_385 : (Jvm.Cond.code ({ cls := "ThreeModeJournal", name := "sync", desc := "(I)Z" } : Jvm.MethodName) prog_1_method_8_code (2 : Nat) (Option.some Jvm.ClassFile.FieldType.boolean)) ∈ tj_T := tj_t (tj_r1 145 (by rfl)) (by rfl)
theorem T_386 : (Jvm.Cond.methodLink "ThreeModeJournal" (81 : Nat) ({ cls := "ThreeModeJournal", name := "writeDirtyOfFile", desc := "(I)Z" } : Jvm.MethodName)) ∈ tj_T := tj_t (tj_r1 146 (by rfl)) (by rfl)
theorem T_388 : (Jvm.Cond.instanceMethod ({ cls := "ThreeModeJournal", name := "writeDirtyOfFile", desc := "(I)Z" } : Jvm.MethodName)) ∈ tj_T := tj_t (tj_r1 148 (by rfl)) (by rfl)
theorem T_389 : (Jvm.Cond.code ({ cls := "ThreeModeJournal", name := "writeDirtyOfFile", desc := "(I)Z" } : Jvm.MethodName) prog_1_method_38_code (6 : Nat) (Option.some Jvm.ClassFile.FieldType.boolean)) ∈ tj_T := tj_t (tj_r1 149 (by rfl)) (by rfl)
theorem T_390 : (Jvm.Cond.methodLink "ThreeModeJournal" (190 : Nat) ({ cls := "ThreeModeJournal$Memory", name := "isDataBlockOf", desc := "(II)Z" } : Jvm.MethodName)) ∈ tj_T := tj_t (tj_r1 150 (by rfl)) (by rfl)
theorem T_391 : (Jvm.Cond.instanceMethod ({ cls := "ThreeModeJournal$Memory", name := "isDataBlockOf", desc := "(II)Z" } : Jvm.MethodName)) ∈ tj_T := tj_t (tj_r1 151 (by rfl)) (by rfl)
theorem T_392 : (Jvm.Cond.selects "ThreeModeJournal$Memory" ({ cls := "ThreeModeJournal$Memory", name := "isDataBlockOf", desc := "(II)Z" } : Jvm.MethodName) ({ cls := "ThreeModeJournal$Memory", name := "isDataBlockOf", desc := "(II)Z" } : Jvm.MethodName)) ∈ tj_T := tj_t (tj_r1 152 (by rfl)) (by rfl)
theorem T_393 : (Jvm.Cond.code ({ cls := "ThreeModeJournal$Memory", name := "isDataBlockOf", desc := "(II)Z" } : Jvm.MethodName) prog_4_method_10_code (5 : Nat) (Option.some Jvm.ClassFile.FieldType.boolean)) ∈ tj_T := tj_t (tj_r1 153 (by rfl)) (by rfl)
theorem T_394 : (Jvm.Cond.methodLink "ThreeModeJournal$Memory" (69 : Nat) ({ cls := "ThreeModeJournal$Memory", name := "fileLength", desc := "(I)I" } : Jvm.MethodName)) ∈ tj_T := tj_t (tj_r1 154 (by rfl)) (by rfl)
theorem N_395 : (Jvm.Cond.methodLinkNest "ThreeModeJournal$Memory" (72 : Nat) ({ cls := "ThreeModeJournal", name := "dataBlocksFor", desc := "(I)I" } : Jvm.MethodName) "ThreeModeJournal") ∈ tj_N := tj_n (tj_r1 155 (by rfl)) (by rfl)
theorem T_396 : (Jvm.Cond.methodLink "ThreeModeJournal$Memory" (75 : Nat) ({ cls := "ThreeModeJournal$Memory", name := "dataBlock", desc := "(II)I" } : Jvm.MethodName)) ∈ tj_T := tj_t (tj_r1 156 (by rfl)) (by rfl)
theorem T_397 : (Jvm.Cond.methodLink "ThreeModeJournalLaw" (47 : Nat) ({ cls := "ThreeModeJournal", name := "flush", desc := "(I)I" } : Jvm.MethodName)) ∈ tj_T := tj_t (tj_r1 157 (by rfl)) (by rfl)
theorem T_398 : (Jvm.Cond.instanceMethod ({ cls := "ThreeModeJournal", name := "flush", desc := "(I)I" } : Jvm.MethodName)) ∈ tj_T := tj_t (tj_r1 158 (by rfl)) (by rfl)
theorem T_399 : (Jvm.Cond.selects "ThreeModeJournal" ({ cls := "ThreeModeJournal", name := "flush", desc := "(I)I" } : Jvm.MethodName) ({ cls := "ThreeModeJournal", name := "flush", desc := "(I)I" } : Jvm.MethodName)) ∈ tj_T := tj_t (tj_r1 159 (by rfl)) (by rfl)
theorem T_400 : (Jvm.Cond.code ({ cls := "ThreeModeJournal", name := "flush", desc := "(I)I" } : Jvm.MethodName) prog_1_method_9_code (3 : Nat) (Option.some Jvm.ClassFile.FieldType.int)) ∈ tj_T := tj_t (tj_r1 160 (by rfl)) (by rfl)
theorem T_401 : (Jvm.Cond.methodLink "ThreeModeJournal" (87 : Nat) ({ cls := "java/lang/Math", name := "min", desc := "(II)I" } : Jvm.MethodName)) ∈ tj_T := tj_t (tj_r1 161 (by rfl)) (by rfl)
theorem T_402 : (Jvm.Cond.static ({ cls := "java/lang/Math", name := "min", desc := "(II)I" } : Jvm.MethodName)) ∈ tj_T := tj_t (tj_r1 162 (by rfl)) (by rfl)
theorem T_403 : (Jvm.Cond.code ({ cls := "java/lang/Math", name := "min", desc := "(II)I" } : Jvm.MethodName) prog_9_method_69_code (2 : Nat) (Option.some Jvm.ClassFile.FieldType.int)) ∈ tj_T := tj_t (tj_r1 163 (by rfl)) (by rfl)
theorem T_404 : (Jvm.Cond.methodLink "ThreeModeJournalLaw" (51 : Nat) ({ cls := "ThreeModeJournal", name := "checkpoint", desc := "(I)I" } : Jvm.MethodName)) ∈ tj_T := tj_t (tj_r1 164 (by rfl)) (by rfl)
theorem T_405 : (Jvm.Cond.instanceMethod ({ cls := "ThreeModeJournal", name := "checkpoint", desc := "(I)I" } : Jvm.MethodName)) ∈ tj_T := tj_t (tj_r1 165 (by rfl)) (by rfl)
theorem T_406 : (Jvm.Cond.selects "ThreeModeJournal" ({ cls := "ThreeModeJournal", name := "checkpoint", desc := "(I)I" } : Jvm.MethodName) ({ cls := "ThreeModeJournal", name := "checkpoint", desc := "(I)I" } : Jvm.MethodName)) ∈ tj_T := tj_t (tj_r1 166 (by rfl)) (by rfl)
theorem T_407 : (Jvm.Cond.code ({ cls := "ThreeModeJournal", name := "checkpoint", desc := "(I)I" } : Jvm.MethodName) prog_1_method_10_code (3 : Nat) (Option.some Jvm.ClassFile.FieldType.int)) ∈ tj_T := tj_t (tj_r1 167 (by rfl)) (by rfl)
theorem T_408 : (Jvm.Cond.methodLink "ThreeModeJournalLaw" (55 : Nat) ({ cls := "ThreeModeJournal", name := "fuse", desc := "(I)V" } : Jvm.MethodName)) ∈ tj_T := tj_t (tj_r1 168 (by rfl)) (by rfl)
theorem T_409 : (Jvm.Cond.instanceMethod ({ cls := "ThreeModeJournal", name := "fuse", desc := "(I)V" } : Jvm.MethodName)) ∈ tj_T := tj_t (tj_r1 169 (by rfl)) (by rfl)
theorem T_410 : (Jvm.Cond.selects "ThreeModeJournal" ({ cls := "ThreeModeJournal", name := "fuse", desc := "(I)V" } : Jvm.MethodName) ({ cls := "ThreeModeJournal", name := "fuse", desc := "(I)V" } : Jvm.MethodName)) ∈ tj_T := tj_t (tj_r1 170 (by rfl)) (by rfl)
theorem T_411 : (Jvm.Cond.code ({ cls := "ThreeModeJournal", name := "fuse", desc := "(I)V" } : Jvm.MethodName) prog_1_method_11_code (2 : Nat) (Option.none : Option Jvm.ClassFile.FieldType)) ∈ tj_T := tj_t (tj_r1 171 (by rfl)) (by rfl)
theorem T_412 : (Jvm.Cond.methodLink "ThreeModeJournalLaw" (60 : Nat) ({ cls := "ThreeModeJournal", name := "crash", desc := "()Z" } : Jvm.MethodName)) ∈ tj_T := tj_t (tj_r1 172 (by rfl)) (by rfl)
theorem T_413 : (Jvm.Cond.instanceMethod ({ cls := "ThreeModeJournal", name := "crash", desc := "()Z" } : Jvm.MethodName)) ∈ tj_T := tj_t (tj_r1 173 (by rfl)) (by rfl)
theorem T_414 : (Jvm.Cond.selects "ThreeModeJournal" ({ cls := "ThreeModeJournal", name := "crash", desc := "()Z" } : Jvm.MethodName) ({ cls := "ThreeModeJournal", name := "crash", desc := "()Z" } : Jvm.MethodName)) ∈ tj_T := tj_t (tj_r1 174 (by rfl)) (by rfl)
theorem T_415 : (Jvm.Cond.code ({ cls := "ThreeModeJournal", name := "crash", desc := "()Z" } : Jvm.MethodName) prog_1_method_12_code (1 : Nat) (Option.some Jvm.ClassFile.FieldType.boolean)) ∈ tj_T := tj_t (tj_r1 175 (by rfl)) (by rfl)
theorem T_416 : (Jvm.Cond.methodLink "ThreeModeJournalLaw" (65 : Nat) ({ cls := "ThreeModeJournal", name := "mount", desc := "(I)I" } : Jvm.MethodName)) ∈ tj_T := tj_t (tj_r1 176 (by rfl)) (by rfl)
theorem T_417 : (Jvm.Cond.instanceMethod ({ cls := "ThreeModeJournal", name := "mount", desc := "(I)I" } : Jvm.MethodName)) ∈ tj_T := tj_t (tj_r1 177 (by rfl)) (by rfl)
theorem T_418 : (Jvm.Cond.selects "ThreeModeJournal" ({ cls := "ThreeModeJournal", name := "mount", desc := "(I)I" } : Jvm.MethodName) ({ cls := "ThreeModeJournal", name := "mount", desc := "(I)I" } : Jvm.MethodName)) ∈ tj_T := tj_t (tj_r1 178 (by rfl)) (by rfl)
theorem T_419 : (Jvm.Cond.code ({ cls := "ThreeModeJournal", name := "mount", desc := "(I)I" } : Jvm.MethodName) prog_1_method_13_code (3 : Nat) (Option.some Jvm.ClassFile.FieldType.int)) ∈ tj_T := tj_t (tj_r1 179 (by rfl)) (by rfl)
theorem T_420 : (Jvm.Cond.methodLink "ThreeModeJournal" (113 : Nat) ({ cls := "ThreeModeJournal$Disk", name := "recover", desc := "()Z" } : Jvm.MethodName)) ∈ tj_T := tj_t (tj_r1 180 (by rfl)) (by rfl)
theorem T_421 : (Jvm.Cond.instanceMethod ({ cls := "ThreeModeJournal$Disk", name := "recover", desc := "()Z" } : Jvm.MethodName)) ∈ tj_T := tj_t (tj_r1 181 (by rfl)) (by rfl)
theorem T_422 : (Jvm.Cond.selects "ThreeModeJournal$Disk" ({ cls := "ThreeModeJournal$Disk", name := "recover", desc := "()Z" } : Jvm.MethodName) ({ cls := "ThreeModeJournal$Disk", name := "recover", desc := "()Z" } : Jvm.MethodName)) ∈ tj_T := tj_t (tj_r1 182 (by rfl)) (by rfl)
theorem T_423 : (Jvm.Cond.code ({ cls := "ThreeModeJournal$Disk", name := "recover", desc := "()Z" } : Jvm.MethodName) prog_2_method_5_code (2 : Nat) (Option.some Jvm.ClassFile.FieldType.boolean)) ∈ tj_T := tj_t (tj_r1 183 (by rfl)) (by rfl)
theorem T_424 : (Jvm.Cond.methodLink "ThreeModeJournal$Disk" (62 : Nat) ({ cls := "ThreeModeJournal$Log", name := "copiesToRecover", desc := "(I)I" } : Jvm.MethodName)) ∈ tj_T := tj_t (tj_r1 184 (by rfl)) (by rfl)
theorem T_425 : (Jvm.Cond.instanceMethod ({ cls := "ThreeModeJournal$Log", name := "copiesToRecover", desc := "(I)I" } : Jvm.MethodName)) ∈ tj_T := tj_t (tj_r1 185 (by rfl)) (by rfl)
theorem T_426 : (Jvm.Cond.selects "ThreeModeJournal$Log" ({ cls := "ThreeModeJournal$Log", name := "copiesToRecover", desc := "(I)I" } : Jvm.MethodName) ({ cls := "ThreeModeJournal$Log", name := "copiesToRecover", desc := "(I)I" } : Jvm.MethodName)) ∈ tj_T := tj_t (tj_r1 186 (by rfl)) (by rfl)
theorem T_427 : (Jvm.Cond.code ({ cls := "ThreeModeJournal$Log", name := "copiesToRecover", desc := "(I)I" } : Jvm.MethodName) prog_3_method_5_code (2 : Nat) (Option.some Jvm.ClassFile.FieldType.int)) ∈ tj_T := tj_t (tj_r1 187 (by rfl)) (by rfl)
theorem T_428 : (Jvm.Cond.methodLink "ThreeModeJournal" (120 : Nat) ({ cls := "ThreeModeJournal$Memory", name := "load", desc := "([I)V" } : Jvm.MethodName)) ∈ tj_T := tj_t (tj_r1 188 (by rfl)) (by rfl)
theorem T_429 : (Jvm.Cond.instanceMethod ({ cls := "ThreeModeJournal$Memory", name := "load", desc := "([I)V" } : Jvm.MethodName)) ∈ tj_T := tj_t (tj_r1 189 (by rfl)) (by rfl)
theorem T_430 : (Jvm.Cond.selects "ThreeModeJournal$Memory" ({ cls := "ThreeModeJournal$Memory", name := "load", desc := "([I)V" } : Jvm.MethodName) ({ cls := "ThreeModeJournal$Memory", name := "load", desc := "([I)V" } : Jvm.MethodName)) ∈ tj_T := tj_t (tj_r1 190 (by rfl)) (by rfl)
theorem T_431 : (Jvm.Cond.code ({ cls := "ThreeModeJournal$Memory", name := "load", desc := "([I)V" } : Jvm.MethodName) prog_4_method_2_code (2 : Nat) (Option.none : Option Jvm.ClassFile.FieldType)) ∈ tj_T := tj_t (tj_r1 191 (by rfl)) (by rfl)
theorem T_432 : (Jvm.Cond.methodLink "ThreeModeJournal$Memory" (37 : Nat) ({ cls := "ThreeModeJournal$Memory", name := "startTransaction", desc := "()V" } : Jvm.MethodName)) ∈ tj_T := tj_t (tj_r1 192 (by rfl)) (by rfl)
theorem T_433 : (Jvm.Cond.methodLink "ThreeModeJournalLaw" (69 : Nat) ({ cls := "ThreeModeJournal", name := "mode", desc := "()I" } : Jvm.MethodName)) ∈ tj_T := tj_t (tj_r1 193 (by rfl)) (by rfl)
theorem T_434 : (Jvm.Cond.instanceMethod ({ cls := "ThreeModeJournal", name := "mode", desc := "()I" } : Jvm.MethodName)) ∈ tj_T := tj_t (tj_r1 194 (by rfl)) (by rfl)
theorem T_435 : (Jvm.Cond.selects "ThreeModeJournal" ({ cls := "ThreeModeJournal", name := "mode", desc := "()I" } : Jvm.MethodName) ({ cls := "ThreeModeJournal", name := "mode", desc := "()I" } : Jvm.MethodName)) ∈ tj_T := tj_t (tj_r1 195 (by rfl)) (by rfl)
theorem T_436 : (Jvm.Cond.code ({ cls := "ThreeModeJournal", name := "mode", desc := "()I" } : Jvm.MethodName) prog_1_method_14_code (1 : Nat) (Option.some Jvm.ClassFile.FieldType.int)) ∈ tj_T := tj_t (tj_r1 196 (by rfl)) (by rfl)
theorem T_437 : (Jvm.Cond.methodLink "ThreeModeJournalLaw" (73 : Nat) ({ cls := "ThreeModeJournal", name := "home", desc := "(II)I" } : Jvm.MethodName)) ∈ tj_T := tj_t (tj_r1 197 (by rfl)) (by rfl)
theorem T_438 : (Jvm.Cond.instanceMethod ({ cls := "ThreeModeJournal", name := "home", desc := "(II)I" } : Jvm.MethodName)) ∈ tj_T := tj_t (tj_r1 198 (by rfl)) (by rfl)
theorem T_439 : (Jvm.Cond.selects "ThreeModeJournal" ({ cls := "ThreeModeJournal", name := "home", desc := "(II)I" } : Jvm.MethodName) ({ cls := "ThreeModeJournal", name := "home", desc := "(II)I" } : Jvm.MethodName)) ∈ tj_T := tj_t (tj_r1 199 (by rfl)) (by rfl)
theorem T_440 : (Jvm.Cond.code ({ cls := "ThreeModeJournal", name := "home", desc := "(II)I" } : Jvm.MethodName) prog_1_method_15_code (3 : Nat) (Option.some Jvm.ClassFile.FieldType.int)) ∈ tj_T := tj_t (tj_r1 200 (by rfl)) (by rfl)
theorem T_441 : (Jvm.Cond.methodLink "ThreeModeJournal" (124 : Nat) ({ cls := "ThreeModeJournal", name := "isWord", desc := "(II)Z" } : Jvm.MethodName)) ∈ tj_T := tj_t (tj_r1 201 (by rfl)) (by rfl)
theorem T_442 : (Jvm.Cond.methodLink "ThreeModeJournalLaw" (77 : Nat) ({ cls := "ThreeModeJournal", name := "need", desc := "()I" } : Jvm.MethodName)) ∈ tj_T := tj_t (tj_r1 202 (by rfl)) (by rfl)
theorem T_443 : (Jvm.Cond.instanceMethod ({ cls := "ThreeModeJournal", name := "need", desc := "()I" } : Jvm.MethodName)) ∈ tj_T := tj_t (tj_r1 203 (by rfl)) (by rfl)
theorem T_444 : (Jvm.Cond.selects "ThreeModeJournal" ({ cls := "ThreeModeJournal", name := "need", desc := "()I" } : Jvm.MethodName) ({ cls := "ThreeModeJournal", name := "need", desc := "()I" } : Jvm.MethodName)) ∈ tj_T := tj_t (tj_r1 204 (by rfl)) (by rfl)
theorem T_445 : (Jvm.Cond.code ({ cls := "ThreeModeJournal", name := "need", desc := "()I" } : Jvm.MethodName) prog_1_method_16_code (1 : Nat) (Option.some Jvm.ClassFile.FieldType.int)) ∈ tj_T := tj_t (tj_r1 205 (by rfl)) (by rfl)
theorem T_446 : (Jvm.Cond.methodLink "ThreeModeJournalLaw" (81 : Nat) ({ cls := "ThreeModeJournal", name := "room", desc := "()I" } : Jvm.MethodName)) ∈ tj_T := tj_t (tj_r1 206 (by rfl)) (by rfl)
theorem T_447 : (Jvm.Cond.instanceMethod ({ cls := "ThreeModeJournal", name := "room", desc := "()I" } : Jvm.MethodName)) ∈ tj_T := tj_t (tj_r1 207 (by rfl)) (by rfl)
theorem T_448 : (Jvm.Cond.selects "ThreeModeJournal" ({ cls := "ThreeModeJournal", name := "room", desc := "()I" } : Jvm.MethodName) ({ cls := "ThreeModeJournal", name := "room", desc := "()I" } : Jvm.MethodName)) ∈ tj_T := tj_t (tj_r1 208 (by rfl)) (by rfl)
theorem T_449 : (Jvm.Cond.code ({ cls := "ThreeModeJournal", name := "room", desc := "()I" } : Jvm.MethodName) prog_1_method_17_code (1 : Nat) (Option.some Jvm.ClassFile.FieldType.int)) ∈ tj_T := tj_t (tj_r1 209 (by rfl)) (by rfl)
theorem T_450 : (Jvm.Cond.methodLink "ThreeModeJournal" (131 : Nat) ({ cls := "ThreeModeJournal$Log", name := "freePlaces", desc := "()I" } : Jvm.MethodName)) ∈ tj_T := tj_t (tj_r1 210 (by rfl)) (by rfl)
theorem T_451 : (Jvm.Cond.methodLink "ThreeModeJournalLaw" (85 : Nat) ({ cls := "ThreeModeJournal", name := "head", desc := "()I" } : Jvm.MethodName)) ∈ tj_T := tj_t (tj_r1 211 (by rfl)) (by rfl)
theorem T_452 : (Jvm.Cond.instanceMethod ({ cls := "ThreeModeJournal", name := "head", desc := "()I" } : Jvm.MethodName)) ∈ tj_T := tj_t (tj_r1 212 (by rfl)) (by rfl)
theorem T_453 : (Jvm.Cond.selects "ThreeModeJournal" ({ cls := "ThreeModeJournal", name := "head", desc := "()I" } : Jvm.MethodName) ({ cls := "ThreeModeJournal", name := "head", desc := "()I" } : Jvm.MethodName)) ∈ tj_T := tj_t (tj_r1 213 (by rfl)) (by rfl)
theorem T_454 : (Jvm.Cond.code ({ cls := "ThreeModeJournal", name := "head", desc := "()I" } : Jvm.MethodName) prog_1_method_18_code (1 : Nat) (Option.some Jvm.ClassFile.FieldType.int)) ∈ tj_T := tj_t (tj_r1 214 (by rfl)) (by rfl)
theorem T_455 : (Jvm.Cond.methodLink "ThreeModeJournalLaw" (89 : Nat) ({ cls := "ThreeModeJournal", name := "dirty", desc := "()I" } : Jvm.MethodName)) ∈ tj_T := tj_t (tj_r1 215 (by rfl)) (by rfl)
theorem T_456 : (Jvm.Cond.instanceMethod ({ cls := "ThreeModeJournal", name := "dirty", desc := "()I" } : Jvm.MethodName)) ∈ tj_T := tj_t (tj_r1 216 (by rfl)) (by rfl)
theorem T_457 : (Jvm.Cond.selects "ThreeModeJournal" ({ cls := "ThreeModeJournal", name := "dirty", desc := "()I" } : Jvm.MethodName) ({ cls := "ThreeModeJournal", name := "dirty", desc := "()I" } : Jvm.MethodName)) ∈ tj_T := tj_t (tj_r1 217 (by rfl)) (by rfl)
theorem T_458 : (Jvm.Cond.code ({ cls := "ThreeModeJournal", name := "dirty", desc := "()I" } : Jvm.MethodName) prog_1_method_19_code (1 : Nat) (Option.some Jvm.ClassFile.FieldType.int)) ∈ tj_T := tj_t (tj_r1 218 (by rfl)) (by rfl)
theorem T_459 : (Jvm.Cond.methodLink "ThreeModeJournalLaw" (93 : Nat) ({ cls := "ThreeModeJournal", name := "free", desc := "()I" } : Jvm.MethodName)) ∈ tj_T := tj_t (tj_r1 219 (by rfl)) (by rfl)
theorem T_460 : (Jvm.Cond.instanceMethod ({ cls := "ThreeModeJournal", name := "free", desc := "()I" } : Jvm.MethodName)) ∈ tj_T := tj_t (tj_r1 220 (by rfl)) (by rfl)
theorem T_461 : (Jvm.Cond.selects "ThreeModeJournal" ({ cls := "ThreeModeJournal", name := "free", desc := "()I" } : Jvm.MethodName) ({ cls := "ThreeModeJournal", name := "free", desc := "()I" } : Jvm.MethodName)) ∈ tj_T := tj_t (tj_r1 221 (by rfl)) (by rfl)
theorem T_462 : (Jvm.Cond.code ({ cls := "ThreeModeJournal", name := "free", desc := "()I" } : Jvm.MethodName) prog_1_method_20_code (1 : Nat) (Option.some Jvm.ClassFile.FieldType.int)) ∈ tj_T := tj_t (tj_r1 222 (by rfl)) (by rfl)
theorem T_463 : (Jvm.Cond.methodLink "ThreeModeJournalLaw" (97 : Nat) ({ cls := "ThreeModeJournal", name := "writes", desc := "()I" } : Jvm.MethodName)) ∈ tj_T := tj_t (tj_r1 223 (by rfl)) (by rfl)
theorem T_464 : (Jvm.Cond.instanceMethod ({ cls := "ThreeModeJournal", name := "writes", desc := "()I" } : Jvm.MethodName)) ∈ tj_T := tj_t (tj_r1 224 (by rfl)) (by rfl)
theorem T_465 : (Jvm.Cond.selects "ThreeModeJournal" ({ cls := "ThreeModeJournal", name := "writes", desc := "()I" } : Jvm.MethodName) ({ cls := "ThreeModeJournal", name := "writes", desc := "()I" } : Jvm.MethodName)) ∈ tj_T := tj_t (tj_r1 225 (by rfl)) (by rfl)
theorem T_466 : (Jvm.Cond.code ({ cls := "ThreeModeJournal", name := "writes", desc := "()I" } : Jvm.MethodName) prog_1_method_21_code (1 : Nat) (Option.some Jvm.ClassFile.FieldType.int)) ∈ tj_T := tj_t (tj_r1 226 (by rfl)) (by rfl)
theorem T_467 : (Jvm.Cond.classLink "ThreeModeJournalLaw" (10 : Nat) "ThreeModeJournalModel") ∈ tj_T := tj_t (tj_r1 227 (by rfl)) (by rfl)
theorem T_468 : (Jvm.Cond.instantiable "ThreeModeJournalModel" (17 : Nat)) ∈ tj_T := tj_t (tj_r1 228 (by rfl)) (by rfl)
theorem T_469 : (Jvm.Cond.methodLink "ThreeModeJournalLaw" (12 : Nat) ({ cls := "ThreeModeJournalModel", name := "<init>", desc := "()V" } : Jvm.MethodName)) ∈ tj_T := tj_t (tj_r1 229 (by rfl)) (by rfl)
theorem T_470 : (Jvm.Cond.instanceMethod ({ cls := "ThreeModeJournalModel", name := "<init>", desc := "()V" } : Jvm.MethodName)) ∈ tj_T := tj_t (tj_r1 230 (by rfl)) (by rfl)
theorem T_471 : (Jvm.Cond.code ({ cls := "ThreeModeJournalModel", name := "<init>", desc := "()V" } : Jvm.MethodName) prog_7_method_1_code (1 : Nat) (Option.none : Option Jvm.ClassFile.FieldType)) ∈ tj_T := tj_t (tj_r1 231 (by rfl)) (by rfl)
theorem T_472 : (Jvm.Cond.methodLink "ThreeModeJournalModel" (1 : Nat) ({ cls := "java/lang/Object", name := "<init>", desc := "()V" } : Jvm.MethodName)) ∈ tj_T := tj_t (tj_r1 232 (by rfl)) (by rfl)
theorem T_473 : (Jvm.Cond.fieldLink "ThreeModeJournalModel" (7 : Nat) "ThreeModeJournalModel" "home" "[I") ∈ tj_T := tj_t (tj_r1 233 (by rfl)) (by rfl)
theorem T_474 : (Jvm.Cond.fieldLink "ThreeModeJournalModel" (13 : Nat) "ThreeModeJournalModel" "now" "[I") ∈ tj_T := tj_t (tj_r1 234 (by rfl)) (by rfl)
theorem T_475 : (Jvm.Cond.fieldLink "ThreeModeJournalModel" (16 : Nat) "ThreeModeJournalModel" "joined" "[Z") ∈ tj_T := tj_t (tj_r1 235 (by rfl)) (by rfl)
theorem T_476 : (Jvm.Cond.fieldLink "ThreeModeJournalModel" (20 : Nat) "ThreeModeJournalModel" "revoked" "[Z") ∈ tj_T := tj_t (tj_r1 236 (by rfl)) (by rfl)
theorem T_477 : (Jvm.Cond.fieldLink "ThreeModeJournalModel" (23 : Nat) "ThreeModeJournalModel" "stale" "[I") ∈ tj_T := tj_t (tj_r1 237 (by rfl)) (by rfl)
theorem T_478 : (Jvm.Cond.fieldLink "ThreeModeJournalModel" (63 : Nat) "ThreeModeJournalModel" "stales" "I") ∈ tj_T := tj_t (tj_r1 238 (by rfl)) (by rfl)
theorem T_479 : (Jvm.Cond.fieldLink "ThreeModeJournalModel" (26 : Nat) "ThreeModeJournalModel" "has" "[Z") ∈ tj_T := tj_t (tj_r1 239 (by rfl)) (by rfl)
theorem T_480 : (Jvm.Cond.fieldLink "ThreeModeJournalModel" (29 : Nat) "ThreeModeJournalModel" "gone" "[Z") ∈ tj_T := tj_t (tj_r2 0 (by rfl)) (by rfl)
theorem T_481 : (Jvm.Cond.fieldLink "ThreeModeJournalModel" (32 : Nat) "ThreeModeJournalModel" "words" "[I") ∈ tj_T := tj_t (tj_r2 1 (by rfl)) (by rfl)
theorem T_482 : (Jvm.Cond.fieldLink "ThreeModeJournalModel" (35 : Nat) "ThreeModeJournalModel" "size" "[I") ∈ tj_T := tj_t (tj_r2 2 (by rfl)) (by rfl)
theorem T_483 : (Jvm.Cond.fieldLink "ThreeModeJournalModel" (66 : Nat) "ThreeModeJournalModel" "count" "I") ∈ tj_T := tj_t (tj_r2 3 (by rfl)) (by rfl)
theorem T_484 : (Jvm.Cond.fieldLink "ThreeModeJournalModel" (97 : Nat) "ThreeModeJournalModel" "place" "I") ∈ tj_T := tj_t (tj_r2 4 (by rfl)) (by rfl)
theorem T_485 : (Jvm.Cond.fieldLink "ThreeModeJournalModel" (38 : Nat) "ThreeModeJournalModel" "up" "Z") ∈ tj_T := tj_t (tj_r2 5 (by rfl)) (by rfl)
theorem T_486 : (Jvm.Cond.fieldLink "ThreeModeJournalModel" (42 : Nat) "ThreeModeJournalModel" "kind" "I") ∈ tj_T := tj_t (tj_r2 6 (by rfl)) (by rfl)
theorem T_487 : (Jvm.Cond.fieldLink "ThreeModeJournalModel" (46 : Nat) "ThreeModeJournalModel" "left" "I") ∈ tj_T := tj_t (tj_r2 7 (by rfl)) (by rfl)
theorem T_488 : (Jvm.Cond.fieldLink "ThreeModeJournalModel" (52 : Nat) "ThreeModeJournalModel" "made" "I") ∈ tj_T := tj_t (tj_r2 8 (by rfl)) (by rfl)
theorem T_489 : (Jvm.Cond.fieldLink "ThreeModeJournalModel" (100 : Nat) "ThreeModeJournalModel" "mapThen" "I") ∈ tj_T := tj_t (tj_r2 9 (by rfl)) (by rfl)
theorem T_490 : (Jvm.Cond.laysFinal "ThreeModeJournalModel" "ThreeModeJournalModel" "home" "[I") ∈ tj_T := tj_t (tj_r2 10 (by rfl)) (by rfl)
theorem T_492 : (Jvm.Cond.laysFinal "ThreeModeJournalModel" "ThreeModeJournalModel" "now" "[I") ∈ tj_T := tj_t (tj_r2 12 (by rfl)) (by rfl)
theorem T_494 : (Jvm.Cond.laysFinal "ThreeModeJournalModel" "ThreeModeJournalModel" "joined" "[Z") ∈ tj_T := tj_t (tj_r2 14 (by rfl)) (by rfl)
theorem T_496 : (Jvm.Cond.laysFinal "ThreeModeJournalModel" "ThreeModeJournalModel" "revoked" "[Z") ∈ tj_T := tj_t (tj_r2 16 (by rfl)) (by rfl)
theorem T_498 : (Jvm.Cond.laysFinal "ThreeModeJournalModel" "ThreeModeJournalModel" "stale" "[I") ∈ tj_T := tj_t (tj_r2 18 (by rfl)) (by rfl)
theorem T_500 : (Jvm.Cond.lays "ThreeModeJournalModel" "ThreeModeJournalModel" "stales" "I") ∈ tj_T := tj_t (tj_r2 20 (by rfl)) (by rfl)
theorem T_502 : (Jvm.Cond.laysFinal "ThreeModeJournalModel" "ThreeModeJournalModel" "has" "[Z") ∈ tj_T := tj_t (tj_r2 22 (by rfl)) (by rfl)
theorem T_504 : (Jvm.Cond.laysFinal "ThreeModeJournalModel" "ThreeModeJournalModel" "gone" "[Z") ∈ tj_T := tj_t (tj_r2 24 (by rfl)) (by rfl)
theorem T_506 : (Jvm.Cond.laysFinal "ThreeModeJournalModel" "ThreeModeJournalModel" "words" "[I") ∈ tj_T := tj_t (tj_r2 26 (by rfl)) (by rfl)
theorem T_508 : (Jvm.Cond.laysFinal "ThreeModeJournalModel" "ThreeModeJournalModel" "size" "[I") ∈ tj_T := tj_t (tj_r2 28 (by rfl)) (by rfl)
theorem T_510 : (Jvm.Cond.lays "ThreeModeJournalModel" "ThreeModeJournalModel" "count" "I") ∈ tj_T := tj_t (tj_r2 30 (by rfl)) (by rfl)
theorem T_512 : (Jvm.Cond.lays "ThreeModeJournalModel" "ThreeModeJournalModel" "place" "I") ∈ tj_T := tj_t (tj_r2 32 (by rfl)) (by rfl)
theorem T_514 : (Jvm.Cond.lays "ThreeModeJournalModel" "ThreeModeJournalModel" "up" "Z") ∈ tj_T := tj_t (tj_r2 34 (by rfl)) (by rfl)
theorem T_516 : (Jvm.Cond.lays "ThreeModeJournalModel" "ThreeModeJournalModel" "kind" "I") ∈ tj_T := tj_t (tj_r2 36 (by rfl)) (by rfl)
theorem T_518 : (Jvm.Cond.lays "ThreeModeJournalModel" "ThreeModeJournalModel" "left" "I") ∈ tj_T := tj_t (tj_r2 38 (by rfl)) (by rfl)
theorem T_520 : (Jvm.Cond.lays "ThreeModeJournalModel" "ThreeModeJournalModel" "made" "I") ∈ tj_T := tj_t (tj_r2 40 (by rfl)) (by rfl)
theorem T_522 : (Jvm.Cond.lays "ThreeModeJournalModel" "ThreeModeJournalModel" "mapThen" "I") ∈ tj_T := tj_t (tj_r2 42 (by rfl)) (by rfl)
theorem T_525 : (Jvm.Cond.arrayClass Jvm.ClassFile.FieldType.boolean) ∈ tj_T := tj_t (tj_r2 45 (by rfl)) (by rfl)
theorem T_526 : (Jvm.Cond.methodLink "ThreeModeJournalLaw" (17 : Nat) ({ cls := "ThreeModeJournalModel", name := "write", desc := "(III)Z" } : Jvm.MethodName)) ∈ tj_T := tj_t (tj_r2 46 (by rfl)) (by rfl)
theorem T_527 : (Jvm.Cond.instanceMethod ({ cls := "ThreeModeJournalModel", name := "write", desc := "(III)Z" } : Jvm.MethodName)) ∈ tj_T := tj_t (tj_r2 47 (by rfl)) (by rfl)
theorem T_528 : (Jvm.Cond.selects "ThreeModeJournalModel" ({ cls := "ThreeModeJournalModel", name := "write", desc := "(III)Z" } : Jvm.MethodName) ({ cls := "ThreeModeJournalModel", name := "write", desc := "(III)Z" } : Jvm.MethodName)) ∈ tj_T := tj_t (tj_r2 48 (by rfl)) (by rfl)
theorem T_529 : (Jvm.Cond.code ({ cls := "ThreeModeJournalModel", name := "write", desc := "(III)Z" } : Jvm.MethodName) prog_7_method_25_code (7 : Nat) (Option.some Jvm.ClassFile.FieldType.boolean)) ∈ tj_T := tj_t (tj_r2 49 (by rfl)) (by rfl)
theorem T_530 : (Jvm.Cond.methodLink "ThreeModeJournalModel" (123 : Nat) ({ cls := "ThreeModeJournalModel", name := "file", desc := "(I)Z" } : Jvm.MethodName)) ∈ tj_T := tj_t (tj_r2 50 (by rfl)) (by rfl)
theorem T_531 : (Jvm.Cond.static ({ cls := "ThreeModeJournalModel", name := "file", desc := "(I)Z" } : Jvm.MethodName)) ∈ tj_T := tj_t (tj_r2 51 (by rfl)) (by rfl)
theorem T_532 : (Jvm.Cond.code ({ cls := "ThreeModeJournalModel", name := "file", desc := "(I)Z" } : Jvm.MethodName) prog_7_method_16_code (1 : Nat) (Option.some Jvm.ClassFile.FieldType.boolean)) ∈ tj_T := tj_t (tj_r2 52 (by rfl)) (by rfl)
theorem T_533 : (Jvm.Cond.methodLink "ThreeModeJournalModel" (126 : Nat) ({ cls := "ThreeModeJournalModel", name := "opens", desc := "()I" } : Jvm.MethodName)) ∈ tj_T := tj_t (tj_r2 53 (by rfl)) (by rfl)
theorem T_535 : (Jvm.Cond.instanceMethod ({ cls := "ThreeModeJournalModel", name := "opens", desc := "()I" } : Jvm.MethodName)) ∈ tj_T := tj_t (tj_r2 55 (by rfl)) (by rfl)
theorem T_536 : (Jvm.Cond.code ({ cls := "ThreeModeJournalModel", name := "opens", desc := "()I" } : Jvm.MethodName) prog_7_method_21_code (3 : Nat) (Option.some Jvm.ClassFile.FieldType.int)) ∈ tj_T := tj_t (tj_r2 56 (by rfl)) (by rfl)
theorem T_537 : (Jvm.Cond.methodLink "ThreeModeJournalModel" (109 : Nat) ({ cls := "ThreeModeJournalModel", name := "open", desc := "(I)Z" } : Jvm.MethodName)) ∈ tj_T := tj_t (tj_r2 57 (by rfl)) (by rfl)
theorem T_539 : (Jvm.Cond.instanceMethod ({ cls := "ThreeModeJournalModel", name := "open", desc := "(I)Z" } : Jvm.MethodName)) ∈ tj_T := tj_t (tj_r2 59 (by rfl)) (by rfl)
theorem T_540 : (Jvm.Cond.code ({ cls := "ThreeModeJournalModel", name := "open", desc := "(I)Z" } : Jvm.MethodName) prog_7_method_20_code (2 : Nat) (Option.some Jvm.ClassFile.FieldType.boolean)) ∈ tj_T := tj_t (tj_r2 60 (by rfl)) (by rfl)
theorem T_541 : (Jvm.Cond.methodLink "ThreeModeJournalModel" (106 : Nat) ({ cls := "ThreeModeJournalModel", name := "used", desc := "(I)Z" } : Jvm.MethodName)) ∈ tj_T := tj_t (tj_r2 61 (by rfl)) (by rfl)
theorem T_543 : (Jvm.Cond.instanceMethod ({ cls := "ThreeModeJournalModel", name := "used", desc := "(I)Z" } : Jvm.MethodName)) ∈ tj_T := tj_t (tj_r2 63 (by rfl)) (by rfl)
theorem T_544 : (Jvm.Cond.code ({ cls := "ThreeModeJournalModel", name := "used", desc := "(I)Z" } : Jvm.MethodName) prog_7_method_18_code (5 : Nat) (Option.some Jvm.ClassFile.FieldType.boolean)) ∈ tj_T := tj_t (tj_r2 64 (by rfl)) (by rfl)
theorem T_545 : (Jvm.Cond.methodLink "ThreeModeJournalModel" (129 : Nat) ({ cls := "ThreeModeJournalModel", name := "ready", desc := "()Z" } : Jvm.MethodName)) ∈ tj_T := tj_t (tj_r2 65 (by rfl)) (by rfl)
theorem T_547 : (Jvm.Cond.instanceMethod ({ cls := "ThreeModeJournalModel", name := "ready", desc := "()Z" } : Jvm.MethodName)) ∈ tj_T := tj_t (tj_r2 67 (by rfl)) (by rfl)
theorem T_548 : (Jvm.Cond.code ({ cls := "ThreeModeJournalModel", name := "ready", desc := "()Z" } : Jvm.MethodName) prog_7_method_15_code (1 : Nat) (Option.some Jvm.ClassFile.FieldType.boolean)) ∈ tj_T := tj_t (tj_r2 68 (by rfl)) (by rfl)
theorem T_549 : (Jvm.Cond.methodLink "ThreeModeJournalModel" (84 : Nat) ({ cls := "ThreeModeJournalModel", name := "needs", desc := "()I" } : Jvm.MethodName)) ∈ tj_T := tj_t (tj_r2 69 (by rfl)) (by rfl)
theorem T_551 : (Jvm.Cond.instanceMethod ({ cls := "ThreeModeJournalModel", name := "needs", desc := "()I" } : Jvm.MethodName)) ∈ tj_T := tj_t (tj_r2 71 (by rfl)) (by rfl)
theorem T_552 : (Jvm.Cond.code ({ cls := "ThreeModeJournalModel", name := "needs", desc := "()I" } : Jvm.MethodName) prog_7_method_12_code (4 : Nat) (Option.some Jvm.ClassFile.FieldType.int)) ∈ tj_T := tj_t (tj_r2 72 (by rfl)) (by rfl)
theorem T_553 : (Jvm.Cond.methodLink "ThreeModeJournalModel" (103 : Nat) ({ cls := "ThreeModeJournalModel", name := "seal", desc := "()I" } : Jvm.MethodName)) ∈ tj_T := tj_t (tj_r2 73 (by rfl)) (by rfl)
theorem T_555 : (Jvm.Cond.instanceMethod ({ cls := "ThreeModeJournalModel", name := "seal", desc := "()I" } : Jvm.MethodName)) ∈ tj_T := tj_t (tj_r2 75 (by rfl)) (by rfl)
theorem T_556 : (Jvm.Cond.code ({ cls := "ThreeModeJournalModel", name := "seal", desc := "()I" } : Jvm.MethodName) prog_7_method_13_code (5 : Nat) (Option.some Jvm.ClassFile.FieldType.int)) ∈ tj_T := tj_t (tj_r2 76 (by rfl)) (by rfl)
theorem T_557 : (Jvm.Cond.methodLink "ThreeModeJournalModel" (80 : Nat) ({ cls := "ThreeModeJournalModel", name := "bring", desc := "(I)Z" } : Jvm.MethodName)) ∈ tj_T := tj_t (tj_r2 77 (by rfl)) (by rfl)
theorem T_559 : (Jvm.Cond.instanceMethod ({ cls := "ThreeModeJournalModel", name := "bring", desc := "(I)Z" } : Jvm.MethodName)) ∈ tj_T := tj_t (tj_r2 79 (by rfl)) (by rfl)
theorem T_560 : (Jvm.Cond.code ({ cls := "ThreeModeJournalModel", name := "bring", desc := "(I)Z" } : Jvm.MethodName) prog_7_method_4_code (4 : Nat) (Option.some Jvm.ClassFile.FieldType.boolean)) ∈ tj_T := tj_t (tj_r2 80 (by rfl)) (by rfl)
theorem T_561 : (Jvm.Cond.methodLink "ThreeModeJournalModel" (55 : Nat) ({ cls := "ThreeModeJournalModel", name := "spend", desc := "()Z" } : Jvm.MethodName)) ∈ tj_T := tj_t (tj_r2 81 (by rfl)) (by rfl)
theorem T_563 : (Jvm.Cond.instanceMethod ({ cls := "ThreeModeJournalModel", name := "spend", desc := "()Z" } : Jvm.MethodName)) ∈ tj_T := tj_t (tj_r2 83 (by rfl)) (by rfl)
theorem T_564 : (Jvm.Cond.code ({ cls := "ThreeModeJournalModel", name := "spend", desc := "()Z" } : Jvm.MethodName) prog_7_method_2_code (1 : Nat) (Option.some Jvm.ClassFile.FieldType.boolean)) ∈ tj_T := tj_t (tj_r2 84 (by rfl)) (by rfl)
theorem T_565 : (Jvm.Cond.methodLink "ThreeModeJournalModel" (49 : Nat) ({ cls := "ThreeModeJournalModel", name := "fail", desc := "()V" } : Jvm.MethodName)) ∈ tj_T := tj_t (tj_r2 85 (by rfl)) (by rfl)
theorem T_567 : (Jvm.Cond.instanceMethod ({ cls := "ThreeModeJournalModel", name := "fail", desc := "()V" } : Jvm.MethodName)) ∈ tj_T := tj_t (tj_r2 87 (by rfl)) (by rfl)
theorem T_568 : (Jvm.Cond.code ({ cls := "ThreeModeJournalModel", name := "fail", desc := "()V" } : Jvm.MethodName) prog_7_method_3_code (1 : Nat) (Option.none : Option Jvm.ClassFile.FieldType)) ∈ tj_T := tj_t (tj_r2 88 (by rfl)) (by rfl)
theorem T_569 : (Jvm.Cond.methodLink "ThreeModeJournalModel" (59 : Nat) ({ cls := "ThreeModeJournalModel", name := "clean", desc := "(I)V" } : Jvm.MethodName)) ∈ tj_T := tj_t (tj_r2 89 (by rfl)) (by rfl)
theorem T_571 : (Jvm.Cond.instanceMethod ({ cls := "ThreeModeJournalModel", name := "clean", desc := "(I)V" } : Jvm.MethodName)) ∈ tj_T := tj_t (tj_r2 91 (by rfl)) (by rfl)
theorem T_572 : (Jvm.Cond.code ({ cls := "ThreeModeJournalModel", name := "clean", desc := "(I)V" } : Jvm.MethodName) prog_7_method_5_code (4 : Nat) (Option.none : Option Jvm.ClassFile.FieldType)) ∈ tj_T := tj_t (tj_r2 92 (by rfl)) (by rfl)
theorem T_573 : (Jvm.Cond.methodLink "ThreeModeJournalModel" (88 : Nat) ({ cls := "ThreeModeJournalModel", name := "vacant", desc := "()I" } : Jvm.MethodName)) ∈ tj_T := tj_t (tj_r2 93 (by rfl)) (by rfl)
theorem T_575 : (Jvm.Cond.instanceMethod ({ cls := "ThreeModeJournalModel", name := "vacant", desc := "()I" } : Jvm.MethodName)) ∈ tj_T := tj_t (tj_r2 95 (by rfl)) (by rfl)
theorem T_576 : (Jvm.Cond.code ({ cls := "ThreeModeJournalModel", name := "vacant", desc := "()I" } : Jvm.MethodName) prog_7_method_11_code (3 : Nat) (Option.some Jvm.ClassFile.FieldType.int)) ∈ tj_T := tj_t (tj_r2 96 (by rfl)) (by rfl)
theorem T_577 : (Jvm.Cond.methodLink "ThreeModeJournalModel" (91 : Nat) ({ cls := "ThreeModeJournalModel", name := "retire", desc := "(I)Z" } : Jvm.MethodName)) ∈ tj_T := tj_t (tj_r2 97 (by rfl)) (by rfl)
theorem T_579 : (Jvm.Cond.instanceMethod ({ cls := "ThreeModeJournalModel", name := "retire", desc := "(I)Z" } : Jvm.MethodName)) ∈ tj_T := tj_t (tj_r2 99 (by rfl)) (by rfl)
theorem T_580 : (Jvm.Cond.code ({ cls := "ThreeModeJournalModel", name := "retire", desc := "(I)Z" } : Jvm.MethodName) prog_7_method_9_code (3 : Nat) (Option.some Jvm.ClassFile.FieldType.boolean)) ∈ tj_T := tj_t (tj_r2 100 (by rfl)) (by rfl)
theorem T_581 : (Jvm.Cond.methodLink "ThreeModeJournalModel" (73 : Nat) ({ cls := "ThreeModeJournalModel", name := "replay", desc := "(IZ)Z" } : Jvm.MethodName)) ∈ tj_T := tj_t (tj_r2 101 (by rfl)) (by rfl)
theorem T_583 : (Jvm.Cond.instanceMethod ({ cls := "ThreeModeJournalModel", name := "replay", desc := "(IZ)Z" } : Jvm.MethodName)) ∈ tj_T := tj_t (tj_r2 103 (by rfl)) (by rfl)
theorem T_584 : (Jvm.Cond.code ({ cls := "ThreeModeJournalModel", name := "replay", desc := "(IZ)Z" } : Jvm.MethodName) prog_7_method_8_code (5 : Nat) (Option.some Jvm.ClassFile.FieldType.boolean)) ∈ tj_T := tj_t (tj_r2 104 (by rfl)) (by rfl)
theorem T_585 : (Jvm.Cond.methodLink "ThreeModeJournalModel" (69 : Nat) ({ cls := "ThreeModeJournalModel", name := "later", desc := "(IIZ)Z" } : Jvm.MethodName)) ∈ tj_T := tj_t (tj_r2 105 (by rfl)) (by rfl)
theorem T_587 : (Jvm.Cond.instanceMethod ({ cls := "ThreeModeJournalModel", name := "later", desc := "(IIZ)Z" } : Jvm.MethodName)) ∈ tj_T := tj_t (tj_r2 107 (by rfl)) (by rfl)
theorem T_588 : (Jvm.Cond.code ({ cls := "ThreeModeJournalModel", name := "later", desc := "(IIZ)Z" } : Jvm.MethodName) prog_7_method_7_code (5 : Nat) (Option.some Jvm.ClassFile.FieldType.boolean)) ∈ tj_T := tj_t (tj_r2 108 (by rfl)) (by rfl)
theorem T_589 : (Jvm.Cond.methodLink "ThreeModeJournalModel" (77 : Nat) ({ cls := "ThreeModeJournalModel", name := "drop", desc := "(I)V" } : Jvm.MethodName)) ∈ tj_T := tj_t (tj_r2 109 (by rfl)) (by rfl)
theorem T_591 : (Jvm.Cond.instanceMethod ({ cls := "ThreeModeJournalModel", name := "drop", desc := "(I)V" } : Jvm.MethodName)) ∈ tj_T := tj_t (tj_r2 111 (by rfl)) (by rfl)
theorem T_592 : (Jvm.Cond.code ({ cls := "ThreeModeJournalModel", name := "drop", desc := "(I)V" } : Jvm.MethodName) prog_7_method_10_code (4 : Nat) (Option.none : Option Jvm.ClassFile.FieldType)) ∈ tj_T := tj_t (tj_r2 112 (by rfl)) (by rfl)
theorem T_593 : (Jvm.Cond.methodLink "ThreeModeJournalModel" (94 : Nat) ({ cls := "ThreeModeJournalModel", name := "enter", desc := "(I)V" } : Jvm.MethodName)) ∈ tj_T := tj_t (tj_r2 113 (by rfl)) (by rfl)
theorem T_595 : (Jvm.Cond.instanceMethod ({ cls := "ThreeModeJournalModel", name := "enter", desc := "(I)V" } : Jvm.MethodName)) ∈ tj_T := tj_t (tj_r2 115 (by rfl)) (by rfl)
theorem T_596 : (Jvm.Cond.code ({ cls := "ThreeModeJournalModel", name := "enter", desc := "(I)V" } : Jvm.MethodName) prog_7_method_14_code (3 : Nat) (Option.none : Option Jvm.ClassFile.FieldType)) ∈ tj_T := tj_t (tj_r2 116 (by rfl)) (by rfl)
theorem T_597 : (Jvm.Cond.methodLink "ThreeModeJournalModel" (132 : Nat) ({ cls := "ThreeModeJournalModel", name := "take", desc := "(I)I" } : Jvm.MethodName)) ∈ tj_T := tj_t (tj_r2 117 (by rfl)) (by rfl)
theorem T_599 : (Jvm.Cond.instanceMethod ({ cls := "ThreeModeJournalModel", name := "take", desc := "(I)I" } : Jvm.MethodName)) ∈ tj_T := tj_t (tj_r2 119 (by rfl)) (by rfl)
theorem T_600 : (Jvm.Cond.code ({ cls := "ThreeModeJournalModel", name := "take", desc := "(I)I" } : Jvm.MethodName) prog_7_method_22_code (4 : Nat) (Option.some Jvm.ClassFile.FieldType.int)) ∈ tj_T := tj_t (tj_r2 120 (by rfl)) (by rfl)
theorem T_601 : (Jvm.Cond.methodLink "ThreeModeJournalModel" (112 : Nat) ({ cls := "ThreeModeJournalModel", name := "remap", desc := "()V" } : Jvm.MethodName)) ∈ tj_T := tj_t (tj_r2 121 (by rfl)) (by rfl)
theorem T_603 : (Jvm.Cond.instanceMethod ({ cls := "ThreeModeJournalModel", name := "remap", desc := "()V" } : Jvm.MethodName)) ∈ tj_T := tj_t (tj_r2 123 (by rfl)) (by rfl)
theorem T_604 : (Jvm.Cond.code ({ cls := "ThreeModeJournalModel", name := "remap", desc := "()V" } : Jvm.MethodName) prog_7_method_19_code (3 : Nat) (Option.none : Option Jvm.ClassFile.FieldType)) ∈ tj_T := tj_t (tj_r2 124 (by rfl)) (by rfl)
theorem T_605 : (Jvm.Cond.methodLink "ThreeModeJournalModel" (115 : Nat) ({ cls := "ThreeModeJournalModel", name := "cell", desc := "(II)I" } : Jvm.MethodName)) ∈ tj_T := tj_t (tj_r2 125 (by rfl)) (by rfl)
theorem T_607 : (Jvm.Cond.instanceMethod ({ cls := "ThreeModeJournalModel", name := "cell", desc := "(II)I" } : Jvm.MethodName)) ∈ tj_T := tj_t (tj_r2 127 (by rfl)) (by rfl)
theorem T_608 : (Jvm.Cond.code ({ cls := "ThreeModeJournalModel", name := "cell", desc := "(II)I" } : Jvm.MethodName) prog_7_method_17_code (3 : Nat) (Option.some Jvm.ClassFile.FieldType.int)) ∈ tj_T := tj_t (tj_r2 128 (by rfl)) (by rfl)
theorem T_609 : (Jvm.Cond.methodLink "ThreeModeJournalModel" (136 : Nat) ({ cls := "ThreeModeJournalModel", name := "isDirty", desc := "(I)Z" } : Jvm.MethodName)) ∈ tj_T := tj_t (tj_r2 129 (by rfl)) (by rfl)
theorem T_611 : (Jvm.Cond.instanceMethod ({ cls := "ThreeModeJournalModel", name := "isDirty", desc := "(I)Z" } : Jvm.MethodName)) ∈ tj_T := tj_t (tj_r2 131 (by rfl)) (by rfl)
theorem T_612 : (Jvm.Cond.code ({ cls := "ThreeModeJournalModel", name := "isDirty", desc := "(I)Z" } : Jvm.MethodName) prog_7_method_6_code (3 : Nat) (Option.some Jvm.ClassFile.FieldType.boolean)) ∈ tj_T := tj_t (tj_r2 132 (by rfl)) (by rfl)
theorem T_613 : (Jvm.Cond.methodLink "ThreeModeJournalLaw" (22 : Nat) ({ cls := "ThreeModeJournalModel", name := "cut", desc := "(II)Z" } : Jvm.MethodName)) ∈ tj_T := tj_t (tj_r2 133 (by rfl)) (by rfl)
theorem T_614 : (Jvm.Cond.instanceMethod ({ cls := "ThreeModeJournalModel", name := "cut", desc := "(II)Z" } : Jvm.MethodName)) ∈ tj_T := tj_t (tj_r2 134 (by rfl)) (by rfl)
theorem T_615 : (Jvm.Cond.selects "ThreeModeJournalModel" ({ cls := "ThreeModeJournalModel", name := "cut", desc := "(II)Z" } : Jvm.MethodName) ({ cls := "ThreeModeJournalModel", name := "cut", desc := "(II)Z" } : Jvm.MethodName)) ∈ tj_T := tj_t (tj_r2 135 (by rfl)) (by rfl)
theorem T_616 : (Jvm.Cond.code ({ cls := "ThreeModeJournalModel", name := "cut", desc := "(II)Z" } : Jvm.MethodName) prog_7_method_26_code (3 : Nat) (Option.some Jvm.ClassFile.FieldType.boolean)) ∈ tj_T := tj_t (tj_r2 136 (by rfl)) (by rfl)
theorem T_617 : (Jvm.Cond.methodLink "ThreeModeJournalModel" (139 : Nat) ({ cls := "ThreeModeJournalModel", name := "shorten", desc := "(II)V" } : Jvm.MethodName)) ∈ tj_T := tj_t (tj_r2 137 (by rfl)) (by rfl)
theorem T_619 : (Jvm.Cond.instanceMethod ({ cls := "ThreeModeJournalModel", name := "shorten", desc := "(II)V" } : Jvm.MethodName)) ∈ tj_T := tj_t (tj_r2 139 (by rfl)) (by rfl)
theorem T_620 : (Jvm.Cond.code ({ cls := "ThreeModeJournalModel", name := "shorten", desc := "(II)V" } : Jvm.MethodName) prog_7_method_24_code (7 : Nat) (Option.none : Option Jvm.ClassFile.FieldType)) ∈ tj_T := tj_t (tj_r2 140 (by rfl)) (by rfl)
theorem T_621 : (Jvm.Cond.methodLink "ThreeModeJournalModel" (119 : Nat) ({ cls := "ThreeModeJournalModel", name := "release", desc := "(IZ)V" } : Jvm.MethodName)) ∈ tj_T := tj_t (tj_r2 141 (by rfl)) (by rfl)
theorem T_623 : (Jvm.Cond.instanceMethod ({ cls := "ThreeModeJournalModel", name := "release", desc := "(IZ)V" } : Jvm.MethodName)) ∈ tj_T := tj_t (tj_r2 143 (by rfl)) (by rfl)
theorem T_624 : (Jvm.Cond.code ({ cls := "ThreeModeJournalModel", name := "release", desc := "(IZ)V" } : Jvm.MethodName) prog_7_method_23_code (6 : Nat) (Option.none : Option Jvm.ClassFile.FieldType)) ∈ tj_T := tj_t (tj_r2 144 (by rfl)) (by rfl)
theorem T_625 : (Jvm.Cond.methodLink "ThreeModeJournalLaw" (26 : Nat) ({ cls := "ThreeModeJournalModel", name := "rename", desc := "(II)Z" } : Jvm.MethodName)) ∈ tj_T := tj_t (tj_r2 145 (by rfl)) (by rfl)
theorem T_626 : (Jvm.Cond.instanceMethod ({ cls := "ThreeModeJournalModel", name := "rename", desc := "(II)Z" } : Jvm.MethodName)) ∈ tj_T := tj_t (tj_r2 146 (by rfl)) (by rfl)
theorem T_627 : (Jvm.Cond.selects "ThreeModeJournalModel" ({ cls := "ThreeModeJournalModel", name := "rename", desc := "(II)Z" } : Jvm.MethodName) ({ cls := "ThreeModeJournalModel", name := "rename", desc := "(II)Z" } : Jvm.MethodName)) ∈ tj_T := tj_t (tj_r2 147 (by rfl)) (by rfl)
theorem T_628 : (Jvm.Cond.code ({ cls := "ThreeModeJournalModel", name := "rename", desc := "(II)Z" } : Jvm.MethodName) prog_7_method_27_code (4 : Nat) (Option.some Jvm.ClassFile.FieldType.boolean)) ∈ tj_T := tj_t (tj_r2 148 (by rfl)) (by rfl)
theorem T_629 : (Jvm.Cond.methodLink "ThreeModeJournalLaw" (31 : Nat) ({ cls := "ThreeModeJournalModel", name := "read", desc := "(II)I" } : Jvm.MethodName)) ∈ tj_T := tj_t (tj_r2 149 (by rfl)) (by rfl)
theorem T_630 : (Jvm.Cond.instanceMethod ({ cls := "ThreeModeJournalModel", name := "read", desc := "(II)I" } : Jvm.MethodName)) ∈ tj_T := tj_t (tj_r2 150 (by rfl)) (by rfl)
theorem T_631 : (Jvm.Cond.selects "ThreeModeJournalModel" ({ cls := "ThreeModeJournalModel", name := "read", desc := "(II)I" } : Jvm.MethodName) ({ cls := "ThreeModeJournalModel", name := "read", desc := "(II)I" } : Jvm.MethodName)) ∈ tj_T := tj_t (tj_r2 151 (by rfl)) (by rfl)
theorem T_632 : (Jvm.Cond.code ({ cls := "ThreeModeJournalModel", name := "read", desc := "(II)I" } : Jvm.MethodName) prog_7_method_28_code (4 : Nat) (Option.some Jvm.ClassFile.FieldType.int)) ∈ tj_T := tj_t (tj_r2 152 (by rfl)) (by rfl)
theorem T_633 : (Jvm.Cond.methodLink "ThreeModeJournalLaw" (36 : Nat) ({ cls := "ThreeModeJournalModel", name := "length", desc := "(I)I" } : Jvm.MethodName)) ∈ tj_T := tj_t (tj_r2 153 (by rfl)) (by rfl)
theorem T_634 : (Jvm.Cond.instanceMethod ({ cls := "ThreeModeJournalModel", name := "length", desc := "(I)I" } : Jvm.MethodName)) ∈ tj_T := tj_t (tj_r2 154 (by rfl)) (by rfl)
theorem T_635 : (Jvm.Cond.selects "ThreeModeJournalModel" ({ cls := "ThreeModeJournalModel", name := "length", desc := "(I)I" } : Jvm.MethodName) ({ cls := "ThreeModeJournalModel", name := "length", desc := "(I)I" } : Jvm.MethodName)) ∈ tj_T := tj_t (tj_r2 155 (by rfl)) (by rfl)
theorem T_636 : (Jvm.Cond.code ({ cls := "ThreeModeJournalModel", name := "length", desc := "(I)I" } : Jvm.MethodName) prog_7_method_29_code (2 : Nat) (Option.some Jvm.ClassFile.FieldType.int)) ∈ tj_T := tj_t (tj_r2 156 (by rfl)) (by rfl)
theorem T_637 : (Jvm.Cond.methodLink "ThreeModeJournalLaw" (41 : Nat) ({ cls := "ThreeModeJournalModel", name := "commit", desc := "()I" } : Jvm.MethodName)) ∈ tj_T := tj_t (tj_r2 157 (by rfl)) (by rfl)
theorem T_638 : (Jvm.Cond.instanceMethod ({ cls := "ThreeModeJournalModel", name := "commit", desc := "()I" } : Jvm.MethodName)) ∈ tj_T := tj_t (tj_r2 158 (by rfl)) (by rfl)
theorem T_639 : (Jvm.Cond.selects "ThreeModeJournalModel" ({ cls := "ThreeModeJournalModel", name := "commit", desc := "()I" } : Jvm.MethodName) ({ cls := "ThreeModeJournalModel", name := "commit", desc := "()I" } : Jvm.MethodName)) ∈ tj_T := tj_t (tj_r2 159 (by rfl)) (by rfl)
theorem T_640 : (Jvm.Cond.code ({ cls := "ThreeModeJournalModel", name := "commit", desc := "()I" } : Jvm.MethodName) prog_7_method_30_code (1 : Nat) (Option.some Jvm.ClassFile.FieldType.int)) ∈ tj_T := tj_t (tj_r2 160 (by rfl)) (by rfl)
theorem T_641 : (Jvm.Cond.methodLink "ThreeModeJournalLaw" (46 : Nat) ({ cls := "ThreeModeJournalModel", name := "sync", desc := "(I)Z" } : Jvm.MethodName)) ∈ tj_T := tj_t (tj_r2 161 (by rfl)) (by rfl)
theorem T_642 : (Jvm.Cond.instanceMethod ({ cls := "ThreeModeJournalModel", name := "sync", desc := "(I)Z" } : Jvm.MethodName)) ∈ tj_T := tj_t (tj_r2 162 (by rfl)) (by rfl)
theorem T_643 : (Jvm.Cond.selects "ThreeModeJournalModel" ({ cls := "ThreeModeJournalModel", name := "sync", desc := "(I)Z" } : Jvm.MethodName) ({ cls := "ThreeModeJournalModel", name := "sync", desc := "(I)Z" } : Jvm.MethodName)) ∈ tj_T := tj_t (tj_r2 163 (by rfl)) (by rfl)
theorem T_644 : (Jvm.Cond.code ({ cls := "ThreeModeJournalModel", name := "sync", desc := "(I)Z" } : Jvm.MethodName) prog_7_method_31_code (3 : Nat) (Option.some Jvm.ClassFile.FieldType.boolean)) ∈ tj_T := tj_t (tj_r2 164 (by rfl)) (by rfl)
theorem T_645 : (Jvm.Cond.methodLink "ThreeModeJournalModel" (143 : Nat) ({ cls := "ThreeModeJournalModel", name := "owns", desc := "(II)Z" } : Jvm.MethodName)) ∈ tj_T := tj_t (tj_r2 165 (by rfl)) (by rfl)
theorem T_647 : (Jvm.Cond.instanceMethod ({ cls := "ThreeModeJournalModel", name := "owns", desc := "(II)Z" } : Jvm.MethodName)) ∈ tj_T := tj_t (tj_r2 167 (by rfl)) (by rfl)
theorem T_648 : (Jvm.Cond.code ({ cls := "ThreeModeJournalModel", name := "owns", desc := "(II)Z" } : Jvm.MethodName) prog_7_method_32_code (4 : Nat) (Option.some Jvm.ClassFile.FieldType.boolean)) ∈ tj_T := tj_t (tj_r2 168 (by rfl)) (by rfl)
theorem T_649 : (Jvm.Cond.methodLink "ThreeModeJournalLaw" (50 : Nat) ({ cls := "ThreeModeJournalModel", name := "flush", desc := "(I)I" } : Jvm.MethodName)) ∈ tj_T := tj_t (tj_r2 169 (by rfl)) (by rfl)
theorem T_650 : (Jvm.Cond.instanceMethod ({ cls := "ThreeModeJournalModel", name := "flush", desc := "(I)I" } : Jvm.MethodName)) ∈ tj_T := tj_t (tj_r2 170 (by rfl)) (by rfl)
theorem T_651 : (Jvm.Cond.selects "ThreeModeJournalModel" ({ cls := "ThreeModeJournalModel", name := "flush", desc := "(I)I" } : Jvm.MethodName) ({ cls := "ThreeModeJournalModel", name := "flush", desc := "(I)I" } : Jvm.MethodName)) ∈ tj_T := tj_t (tj_r2 171 (by rfl)) (by rfl)
theorem T_652 : (Jvm.Cond.code ({ cls := "ThreeModeJournalModel", name := "flush", desc := "(I)I" } : Jvm.MethodName) prog_7_method_33_code (3 : Nat) (Option.some Jvm.ClassFile.FieldType.int)) ∈ tj_T := tj_t (tj_r2 172 (by rfl)) (by rfl)
theorem T_653 : (Jvm.Cond.methodLink "ThreeModeJournalLaw" (54 : Nat) ({ cls := "ThreeModeJournalModel", name := "checkpoint", desc := "(I)I" } : Jvm.MethodName)) ∈ tj_T := tj_t (tj_r2 173 (by rfl)) (by rfl)
theorem T_654 : (Jvm.Cond.instanceMethod ({ cls := "ThreeModeJournalModel", name := "checkpoint", desc := "(I)I" } : Jvm.MethodName)) ∈ tj_T := tj_t (tj_r2 174 (by rfl)) (by rfl)
theorem T_655 : (Jvm.Cond.selects "ThreeModeJournalModel" ({ cls := "ThreeModeJournalModel", name := "checkpoint", desc := "(I)I" } : Jvm.MethodName) ({ cls := "ThreeModeJournalModel", name := "checkpoint", desc := "(I)I" } : Jvm.MethodName)) ∈ tj_T := tj_t (tj_r2 175 (by rfl)) (by rfl)
theorem T_656 : (Jvm.Cond.code ({ cls := "ThreeModeJournalModel", name := "checkpoint", desc := "(I)I" } : Jvm.MethodName) prog_7_method_34_code (4 : Nat) (Option.some Jvm.ClassFile.FieldType.int)) ∈ tj_T := tj_t (tj_r2 176 (by rfl)) (by rfl)
theorem T_657 : (Jvm.Cond.methodLink "ThreeModeJournalLaw" (59 : Nat) ({ cls := "ThreeModeJournalModel", name := "fuse", desc := "(I)V" } : Jvm.MethodName)) ∈ tj_T := tj_t (tj_r2 177 (by rfl)) (by rfl)
theorem T_658 : (Jvm.Cond.instanceMethod ({ cls := "ThreeModeJournalModel", name := "fuse", desc := "(I)V" } : Jvm.MethodName)) ∈ tj_T := tj_t (tj_r2 178 (by rfl)) (by rfl)
theorem T_659 : (Jvm.Cond.selects "ThreeModeJournalModel" ({ cls := "ThreeModeJournalModel", name := "fuse", desc := "(I)V" } : Jvm.MethodName) ({ cls := "ThreeModeJournalModel", name := "fuse", desc := "(I)V" } : Jvm.MethodName)) ∈ tj_T := tj_t (tj_r2 179 (by rfl)) (by rfl)
theorem T_660 : (Jvm.Cond.code ({ cls := "ThreeModeJournalModel", name := "fuse", desc := "(I)V" } : Jvm.MethodName) prog_7_method_35_code (2 : Nat) (Option.none : Option Jvm.ClassFile.FieldType)) ∈ tj_T := tj_t (tj_r2 180 (by rfl)) (by rfl)
theorem T_661 : (Jvm.Cond.methodLink "ThreeModeJournalLaw" (64 : Nat) ({ cls := "ThreeModeJournalModel", name := "crash", desc := "()Z" } : Jvm.MethodName)) ∈ tj_T := tj_t (tj_r2 181 (by rfl)) (by rfl)
theorem T_662 : (Jvm.Cond.instanceMethod ({ cls := "ThreeModeJournalModel", name := "crash", desc := "()Z" } : Jvm.MethodName)) ∈ tj_T := tj_t (tj_r2 182 (by rfl)) (by rfl)
theorem T_663 : (Jvm.Cond.selects "ThreeModeJournalModel" ({ cls := "ThreeModeJournalModel", name := "crash", desc := "()Z" } : Jvm.MethodName) ({ cls := "ThreeModeJournalModel", name := "crash", desc := "()Z" } : Jvm.MethodName)) ∈ tj_T := tj_t (tj_r2 183 (by rfl)) (by rfl)
theorem T_664 : (Jvm.Cond.code ({ cls := "ThreeModeJournalModel", name := "crash", desc := "()Z" } : Jvm.MethodName) prog_7_method_36_code (2 : Nat) (Option.some Jvm.ClassFile.FieldType.boolean)) ∈ tj_T := tj_t (tj_r2 184 (by rfl)) (by rfl)
theorem T_665 : (Jvm.Cond.methodLink "ThreeModeJournalLaw" (68 : Nat) ({ cls := "ThreeModeJournalModel", name := "mount", desc := "(I)I" } : Jvm.MethodName)) ∈ tj_T := tj_t (tj_r2 185 (by rfl)) (by rfl)
theorem T_666 : (Jvm.Cond.instanceMethod ({ cls := "ThreeModeJournalModel", name := "mount", desc := "(I)I" } : Jvm.MethodName)) ∈ tj_T := tj_t (tj_r2 186 (by rfl)) (by rfl)
theorem T_667 : (Jvm.Cond.selects "ThreeModeJournalModel" ({ cls := "ThreeModeJournalModel", name := "mount", desc := "(I)I" } : Jvm.MethodName) ({ cls := "ThreeModeJournalModel", name := "mount", desc := "(I)I" } : Jvm.MethodName)) ∈ tj_T := tj_t (tj_r2 187 (by rfl)) (by rfl)
theorem T_668 : (Jvm.Cond.code ({ cls := "ThreeModeJournalModel", name := "mount", desc := "(I)I" } : Jvm.MethodName) prog_7_method_37_code (4 : Nat) (Option.some Jvm.ClassFile.FieldType.int)) ∈ tj_T := tj_t (tj_r2 188 (by rfl)) (by rfl)
theorem T_669 : (Jvm.Cond.methodLink "ThreeModeJournalLaw" (72 : Nat) ({ cls := "ThreeModeJournalModel", name := "mode", desc := "()I" } : Jvm.MethodName)) ∈ tj_T := tj_t (tj_r2 189 (by rfl)) (by rfl)
theorem T_670 : (Jvm.Cond.instanceMethod ({ cls := "ThreeModeJournalModel", name := "mode", desc := "()I" } : Jvm.MethodName)) ∈ tj_T := tj_t (tj_r2 190 (by rfl)) (by rfl)
theorem T_671 : (Jvm.Cond.selects "ThreeModeJournalModel" ({ cls := "ThreeModeJournalModel", name := "mode", desc := "()I" } : Jvm.MethodName) ({ cls := "ThreeModeJournalModel", name := "mode", desc := "()I" } : Jvm.MethodName)) ∈ tj_T := tj_t (tj_r2 191 (by rfl)) (by rfl)
theorem T_672 : (Jvm.Cond.code ({ cls := "ThreeModeJournalModel", name := "mode", desc := "()I" } : Jvm.MethodName) prog_7_method_38_code (1 : Nat) (Option.some Jvm.ClassFile.FieldType.int)) ∈ tj_T := tj_t (tj_r2 192 (by rfl)) (by rfl)
theorem T_673 : (Jvm.Cond.methodLink "ThreeModeJournalLaw" (76 : Nat) ({ cls := "ThreeModeJournalModel", name := "home", desc := "(II)I" } : Jvm.MethodName)) ∈ tj_T := tj_t (tj_r2 193 (by rfl)) (by rfl)
theorem T_674 : (Jvm.Cond.instanceMethod ({ cls := "ThreeModeJournalModel", name := "home", desc := "(II)I" } : Jvm.MethodName)) ∈ tj_T := tj_t (tj_r2 194 (by rfl)) (by rfl)
theorem T_675 : (Jvm.Cond.selects "ThreeModeJournalModel" ({ cls := "ThreeModeJournalModel", name := "home", desc := "(II)I" } : Jvm.MethodName) ({ cls := "ThreeModeJournalModel", name := "home", desc := "(II)I" } : Jvm.MethodName)) ∈ tj_T := tj_t (tj_r2 195 (by rfl)) (by rfl)
theorem T_676 : (Jvm.Cond.code ({ cls := "ThreeModeJournalModel", name := "home", desc := "(II)I" } : Jvm.MethodName) prog_7_method_39_code (3 : Nat) (Option.some Jvm.ClassFile.FieldType.int)) ∈ tj_T := tj_t (tj_r2 196 (by rfl)) (by rfl)
theorem T_677 : (Jvm.Cond.methodLink "ThreeModeJournalLaw" (80 : Nat) ({ cls := "ThreeModeJournalModel", name := "need", desc := "()I" } : Jvm.MethodName)) ∈ tj_T := tj_t (tj_r2 197 (by rfl)) (by rfl)
theorem T_678 : (Jvm.Cond.instanceMethod ({ cls := "ThreeModeJournalModel", name := "need", desc := "()I" } : Jvm.MethodName)) ∈ tj_T := tj_t (tj_r2 198 (by rfl)) (by rfl)
theorem T_679 : (Jvm.Cond.selects "ThreeModeJournalModel" ({ cls := "ThreeModeJournalModel", name := "need", desc := "()I" } : Jvm.MethodName) ({ cls := "ThreeModeJournalModel", name := "need", desc := "()I" } : Jvm.MethodName)) ∈ tj_T := tj_t (tj_r2 199 (by rfl)) (by rfl)
theorem T_680 : (Jvm.Cond.code ({ cls := "ThreeModeJournalModel", name := "need", desc := "()I" } : Jvm.MethodName) prog_7_method_40_code (1 : Nat) (Option.some Jvm.ClassFile.FieldType.int)) ∈ tj_T := tj_t (tj_r2 200 (by rfl)) (by rfl)
theorem T_681 : (Jvm.Cond.methodLink "ThreeModeJournalLaw" (84 : Nat) ({ cls := "ThreeModeJournalModel", name := "room", desc := "()I" } : Jvm.MethodName)) ∈ tj_T := tj_t (tj_r2 201 (by rfl)) (by rfl)
theorem T_682 : (Jvm.Cond.instanceMethod ({ cls := "ThreeModeJournalModel", name := "room", desc := "()I" } : Jvm.MethodName)) ∈ tj_T := tj_t (tj_r2 202 (by rfl)) (by rfl)
theorem T_683 : (Jvm.Cond.selects "ThreeModeJournalModel" ({ cls := "ThreeModeJournalModel", name := "room", desc := "()I" } : Jvm.MethodName) ({ cls := "ThreeModeJournalModel", name := "room", desc := "()I" } : Jvm.MethodName)) ∈ tj_T := tj_t (tj_r2 203 (by rfl)) (by rfl)
theorem T_684 : (Jvm.Cond.code ({ cls := "ThreeModeJournalModel", name := "room", desc := "()I" } : Jvm.MethodName) prog_7_method_41_code (1 : Nat) (Option.some Jvm.ClassFile.FieldType.int)) ∈ tj_T := tj_t (tj_r2 204 (by rfl)) (by rfl)
theorem T_685 : (Jvm.Cond.methodLink "ThreeModeJournalLaw" (88 : Nat) ({ cls := "ThreeModeJournalModel", name := "head", desc := "()I" } : Jvm.MethodName)) ∈ tj_T := tj_t (tj_r2 205 (by rfl)) (by rfl)
theorem T_686 : (Jvm.Cond.instanceMethod ({ cls := "ThreeModeJournalModel", name := "head", desc := "()I" } : Jvm.MethodName)) ∈ tj_T := tj_t (tj_r2 206 (by rfl)) (by rfl)
theorem T_687 : (Jvm.Cond.selects "ThreeModeJournalModel" ({ cls := "ThreeModeJournalModel", name := "head", desc := "()I" } : Jvm.MethodName) ({ cls := "ThreeModeJournalModel", name := "head", desc := "()I" } : Jvm.MethodName)) ∈ tj_T := tj_t (tj_r2 207 (by rfl)) (by rfl)
theorem T_688 : (Jvm.Cond.code ({ cls := "ThreeModeJournalModel", name := "head", desc := "()I" } : Jvm.MethodName) prog_7_method_42_code (1 : Nat) (Option.some Jvm.ClassFile.FieldType.int)) ∈ tj_T := tj_t (tj_r2 208 (by rfl)) (by rfl)
theorem T_689 : (Jvm.Cond.methodLink "ThreeModeJournalLaw" (92 : Nat) ({ cls := "ThreeModeJournalModel", name := "dirty", desc := "()I" } : Jvm.MethodName)) ∈ tj_T := tj_t (tj_r2 209 (by rfl)) (by rfl)
theorem T_690 : (Jvm.Cond.instanceMethod ({ cls := "ThreeModeJournalModel", name := "dirty", desc := "()I" } : Jvm.MethodName)) ∈ tj_T := tj_t (tj_r2 210 (by rfl)) (by rfl)
theorem T_691 : (Jvm.Cond.selects "ThreeModeJournalModel" ({ cls := "ThreeModeJournalModel", name := "dirty", desc := "()I" } : Jvm.MethodName) ({ cls := "ThreeModeJournalModel", name := "dirty", desc := "()I" } : Jvm.MethodName)) ∈ tj_T := tj_t (tj_r2 211 (by rfl)) (by rfl)
theorem T_692 : (Jvm.Cond.code ({ cls := "ThreeModeJournalModel", name := "dirty", desc := "()I" } : Jvm.MethodName) prog_7_method_43_code (1 : Nat) (Option.some Jvm.ClassFile.FieldType.int)) ∈ tj_T := tj_t (tj_r2 212 (by rfl)) (by rfl)
theorem T_693 : (Jvm.Cond.methodLink "ThreeModeJournalLaw" (96 : Nat) ({ cls := "ThreeModeJournalModel", name := "free", desc := "()I" } : Jvm.MethodName)) ∈ tj_T := tj_t (tj_r2 213 (by rfl)) (by rfl)
theorem T_694 : (Jvm.Cond.instanceMethod ({ cls := "ThreeModeJournalModel", name := "free", desc := "()I" } : Jvm.MethodName)) ∈ tj_T := tj_t (tj_r2 214 (by rfl)) (by rfl)
theorem T_695 : (Jvm.Cond.selects "ThreeModeJournalModel" ({ cls := "ThreeModeJournalModel", name := "free", desc := "()I" } : Jvm.MethodName) ({ cls := "ThreeModeJournalModel", name := "free", desc := "()I" } : Jvm.MethodName)) ∈ tj_T := tj_t (tj_r2 215 (by rfl)) (by rfl)
theorem T_696 : (Jvm.Cond.code ({ cls := "ThreeModeJournalModel", name := "free", desc := "()I" } : Jvm.MethodName) prog_7_method_44_code (1 : Nat) (Option.some Jvm.ClassFile.FieldType.int)) ∈ tj_T := tj_t (tj_r2 216 (by rfl)) (by rfl)
theorem T_697 : (Jvm.Cond.methodLink "ThreeModeJournalLaw" (100 : Nat) ({ cls := "ThreeModeJournalModel", name := "writes", desc := "()I" } : Jvm.MethodName)) ∈ tj_T := tj_t (tj_r2 217 (by rfl)) (by rfl)
theorem T_698 : (Jvm.Cond.instanceMethod ({ cls := "ThreeModeJournalModel", name := "writes", desc := "()I" } : Jvm.MethodName)) ∈ tj_T := tj_t (tj_r2 218 (by rfl)) (by rfl)
theorem T_699 : (Jvm.Cond.selects "ThreeModeJournalModel" ({ cls := "ThreeModeJournalModel", name := "writes", desc := "()I" } : Jvm.MethodName) ({ cls := "ThreeModeJournalModel", name := "writes", desc := "()I" } : Jvm.MethodName)) ∈ tj_T := tj_t (tj_r2 219 (by rfl)) (by rfl)
theorem T_700 : (Jvm.Cond.code ({ cls := "ThreeModeJournalModel", name := "writes", desc := "()I" } : Jvm.MethodName) prog_7_method_45_code (1 : Nat) (Option.some Jvm.ClassFile.FieldType.int)) ∈ tj_T := tj_t (tj_r2 220 (by rfl)) (by rfl)
theorem tj_pk0 {q : MethodName × Nat} (i : Nat) (e : lw_privs_1[i]? = some q) : Cond.selects q.1.cls q.1 q.1 ∈ k2_sels lw_privs := by
  have h : q ∈ lw_privs_1 := List.mem_of_getElem? e
  have h2 : q ∈ lw_privs := List.mem_append_left _ h
  exact List.mem_map.mpr ⟨q, h2, rfl⟩
theorem tj_pk1 {q : MethodName × Nat} (i : Nat) (e : lw_privs_2[i]? = some q) : Cond.selects q.1.cls q.1 q.1 ∈ k2_sels lw_privs := by
  have h : q ∈ lw_privs_2 := List.mem_of_getElem? e
  have h2 : q ∈ lw_privs := List.mem_append_right _ (List.mem_append_left _ h)
  exact List.mem_map.mpr ⟨q, h2, rfl⟩
theorem tj_pk2 {q : MethodName × Nat} (i : Nat) (e : lw_privs_3[i]? = some q) : Cond.selects q.1.cls q.1 q.1 ∈ k2_sels lw_privs := by
  have h : q ∈ lw_privs_3 := List.mem_of_getElem? e
  have h2 : q ∈ lw_privs := List.mem_append_right _ (List.mem_append_right _ (h))
  exact List.mem_map.mpr ⟨q, h2, rfl⟩
theorem S_0 : Cond.selects "ThreeModeJournal$Memory" (⟨"ThreeModeJournal$Memory", "takeable", "()I"⟩ : MethodName) (⟨"ThreeModeJournal$Memory", "takeable", "()I"⟩ : MethodName) ∈ tj_T := tj_s (tj_pk0 (q := ((⟨"ThreeModeJournal$Memory", "takeable", "()I"⟩ : MethodName), 6)) 0 (by rfl)) (by rfl)
theorem S_1 : Cond.selects "ThreeModeJournal$Memory" (⟨"ThreeModeJournal$Memory", "blocksInUse", "()I"⟩ : MethodName) (⟨"ThreeModeJournal$Memory", "blocksInUse", "()I"⟩ : MethodName) ∈ tj_T := tj_s (tj_pk0 (q := ((⟨"ThreeModeJournal$Memory", "blocksInUse", "()I"⟩ : MethodName), 6)) 1 (by rfl)) (by rfl)
theorem S_2 : Cond.selects "ThreeModeJournal" (⟨"ThreeModeJournal", "commitIfLarge", "()Z"⟩ : MethodName) (⟨"ThreeModeJournal", "commitIfLarge", "()Z"⟩ : MethodName) ∈ tj_T := tj_s (tj_pk0 (q := ((⟨"ThreeModeJournal", "commitIfLarge", "()Z"⟩ : MethodName), 4)) 2 (by rfl)) (by rfl)
theorem S_3 : Cond.selects "ThreeModeJournal" (⟨"ThreeModeJournal", "commitRunning", "()I"⟩ : MethodName) (⟨"ThreeModeJournal", "commitRunning", "()I"⟩ : MethodName) ∈ tj_T := tj_s (tj_pk0 (q := ((⟨"ThreeModeJournal", "commitRunning", "()I"⟩ : MethodName), 4)) 3 (by rfl)) (by rfl)
theorem S_4 : Cond.selects "ThreeModeJournal" (⟨"ThreeModeJournal", "writeFirstDirty", "(I)Z"⟩ : MethodName) (⟨"ThreeModeJournal", "writeFirstDirty", "(I)Z"⟩ : MethodName) ∈ tj_T := tj_s (tj_pk0 (q := ((⟨"ThreeModeJournal", "writeFirstDirty", "(I)Z"⟩ : MethodName), 4)) 4 (by rfl)) (by rfl)
theorem S_5 : Cond.selects "ThreeModeJournal" (⟨"ThreeModeJournal", "writeDirtyHome", "(I)Z"⟩ : MethodName) (⟨"ThreeModeJournal", "writeDirtyHome", "(I)Z"⟩ : MethodName) ∈ tj_T := tj_s (tj_pk0 (q := ((⟨"ThreeModeJournal", "writeDirtyHome", "(I)Z"⟩ : MethodName), 4)) 5 (by rfl)) (by rfl)
theorem S_6 : Cond.selects "ThreeModeJournal$Memory" (⟨"ThreeModeJournal$Memory", "dirtyPlace", "(I)I"⟩ : MethodName) (⟨"ThreeModeJournal$Memory", "dirtyPlace", "(I)I"⟩ : MethodName) ∈ tj_T := tj_s (tj_pk0 (q := ((⟨"ThreeModeJournal$Memory", "dirtyPlace", "(I)I"⟩ : MethodName), 6)) 6 (by rfl)) (by rfl)
theorem S_7 : Cond.selects "ThreeModeJournal$Log" (⟨"ThreeModeJournal$Log", "slot", "(I)I"⟩ : MethodName) (⟨"ThreeModeJournal$Log", "slot", "(I)I"⟩ : MethodName) ∈ tj_T := tj_s (tj_pk0 (q := ((⟨"ThreeModeJournal$Log", "slot", "(I)I"⟩ : MethodName), 8)) 7 (by rfl)) (by rfl)
theorem S_8 : Cond.selects "ThreeModeJournal$Log" (⟨"ThreeModeJournal$Log", "unionBehind", "(I[I)I"⟩ : MethodName) (⟨"ThreeModeJournal$Log", "unionBehind", "(I[I)I"⟩ : MethodName) ∈ tj_T := tj_s (tj_pk0 (q := ((⟨"ThreeModeJournal$Log", "unionBehind", "(I[I)I"⟩ : MethodName), 8)) 8 (by rfl)) (by rfl)
theorem S_9 : Cond.selects "ThreeModeJournal$Disk" (⟨"ThreeModeJournal$Disk", "writeCopiesHome", "(II)Z"⟩ : MethodName) (⟨"ThreeModeJournal$Disk", "writeCopiesHome", "(II)Z"⟩ : MethodName) ∈ tj_T := tj_s (tj_pk0 (q := ((⟨"ThreeModeJournal$Disk", "writeCopiesHome", "(II)Z"⟩ : MethodName), 3)) 9 (by rfl)) (by rfl)
theorem S_10 : Cond.selects "ThreeModeJournal$Disk" (⟨"ThreeModeJournal$Disk", "dropOldest", "(I)Z"⟩ : MethodName) (⟨"ThreeModeJournal$Disk", "dropOldest", "(I)Z"⟩ : MethodName) ∈ tj_T := tj_s (tj_pk0 (q := ((⟨"ThreeModeJournal$Disk", "dropOldest", "(I)Z"⟩ : MethodName), 3)) 10 (by rfl)) (by rfl)
theorem S_11 : Cond.selects "ThreeModeJournal" (⟨"ThreeModeJournal", "growByOne", "(II)V"⟩ : MethodName) (⟨"ThreeModeJournal", "growByOne", "(II)V"⟩ : MethodName) ∈ tj_T := tj_s (tj_pk0 (q := ((⟨"ThreeModeJournal", "growByOne", "(II)V"⟩ : MethodName), 4)) 11 (by rfl)) (by rfl)
theorem S_12 : Cond.selects "ThreeModeJournal" (⟨"ThreeModeJournal", "addDataBlock", "(II)V"⟩ : MethodName) (⟨"ThreeModeJournal", "addDataBlock", "(II)V"⟩ : MethodName) ∈ tj_T := tj_s (tj_pk0 (q := ((⟨"ThreeModeJournal", "addDataBlock", "(II)V"⟩ : MethodName), 4)) 12 (by rfl)) (by rfl)
theorem S_13 : Cond.selects "ThreeModeJournal$Memory" (⟨"ThreeModeJournal$Memory", "clearWords", "(I)V"⟩ : MethodName) (⟨"ThreeModeJournal$Memory", "clearWords", "(I)V"⟩ : MethodName) ∈ tj_T := tj_s (tj_pk0 (q := ((⟨"ThreeModeJournal$Memory", "clearWords", "(I)V"⟩ : MethodName), 6)) 13 (by rfl)) (by rfl)
theorem S_14 : Cond.selects "ThreeModeJournal" (⟨"ThreeModeJournal", "setDataWord", "(III)V"⟩ : MethodName) (⟨"ThreeModeJournal", "setDataWord", "(III)V"⟩ : MethodName) ∈ tj_T := tj_s (tj_pk0 (q := ((⟨"ThreeModeJournal", "setDataWord", "(III)V"⟩ : MethodName), 4)) 14 (by rfl)) (by rfl)
theorem S_15 : Cond.selects "ThreeModeJournal" (⟨"ThreeModeJournal", "shorten", "(II)V"⟩ : MethodName) (⟨"ThreeModeJournal", "shorten", "(II)V"⟩ : MethodName) ∈ tj_T := tj_s (tj_pk0 (q := ((⟨"ThreeModeJournal", "shorten", "(II)V"⟩ : MethodName), 4)) 15 (by rfl)) (by rfl)
theorem S_16 : Cond.selects "ThreeModeJournal" (⟨"ThreeModeJournal", "freeIndex", "(I)V"⟩ : MethodName) (⟨"ThreeModeJournal", "freeIndex", "(I)V"⟩ : MethodName) ∈ tj_T := tj_s (tj_pk1 (q := ((⟨"ThreeModeJournal", "freeIndex", "(I)V"⟩ : MethodName), 4)) 0 (by rfl)) (by rfl)
theorem S_17 : Cond.selects "ThreeModeJournal" (⟨"ThreeModeJournal", "writeDirtyOfFile", "(I)Z"⟩ : MethodName) (⟨"ThreeModeJournal", "writeDirtyOfFile", "(I)Z"⟩ : MethodName) ∈ tj_T := tj_s (tj_pk1 (q := ((⟨"ThreeModeJournal", "writeDirtyOfFile", "(I)Z"⟩ : MethodName), 4)) 1 (by rfl)) (by rfl)
theorem S_18 : Cond.selects "ThreeModeJournalModel" (⟨"ThreeModeJournalModel", "opens", "()I"⟩ : MethodName) (⟨"ThreeModeJournalModel", "opens", "()I"⟩ : MethodName) ∈ tj_T := tj_s (tj_pk1 (q := ((⟨"ThreeModeJournalModel", "opens", "()I"⟩ : MethodName), 17)) 2 (by rfl)) (by rfl)
theorem S_19 : Cond.selects "ThreeModeJournalModel" (⟨"ThreeModeJournalModel", "open", "(I)Z"⟩ : MethodName) (⟨"ThreeModeJournalModel", "open", "(I)Z"⟩ : MethodName) ∈ tj_T := tj_s (tj_pk1 (q := ((⟨"ThreeModeJournalModel", "open", "(I)Z"⟩ : MethodName), 17)) 3 (by rfl)) (by rfl)
theorem S_20 : Cond.selects "ThreeModeJournalModel" (⟨"ThreeModeJournalModel", "used", "(I)Z"⟩ : MethodName) (⟨"ThreeModeJournalModel", "used", "(I)Z"⟩ : MethodName) ∈ tj_T := tj_s (tj_pk1 (q := ((⟨"ThreeModeJournalModel", "used", "(I)Z"⟩ : MethodName), 17)) 4 (by rfl)) (by rfl)
theorem S_21 : Cond.selects "ThreeModeJournalModel" (⟨"ThreeModeJournalModel", "ready", "()Z"⟩ : MethodName) (⟨"ThreeModeJournalModel", "ready", "()Z"⟩ : MethodName) ∈ tj_T := tj_s (tj_pk1 (q := ((⟨"ThreeModeJournalModel", "ready", "()Z"⟩ : MethodName), 17)) 5 (by rfl)) (by rfl)
theorem S_22 : Cond.selects "ThreeModeJournalModel" (⟨"ThreeModeJournalModel", "needs", "()I"⟩ : MethodName) (⟨"ThreeModeJournalModel", "needs", "()I"⟩ : MethodName) ∈ tj_T := tj_s (tj_pk1 (q := ((⟨"ThreeModeJournalModel", "needs", "()I"⟩ : MethodName), 17)) 6 (by rfl)) (by rfl)
theorem S_23 : Cond.selects "ThreeModeJournalModel" (⟨"ThreeModeJournalModel", "seal", "()I"⟩ : MethodName) (⟨"ThreeModeJournalModel", "seal", "()I"⟩ : MethodName) ∈ tj_T := tj_s (tj_pk1 (q := ((⟨"ThreeModeJournalModel", "seal", "()I"⟩ : MethodName), 17)) 7 (by rfl)) (by rfl)
theorem S_24 : Cond.selects "ThreeModeJournalModel" (⟨"ThreeModeJournalModel", "bring", "(I)Z"⟩ : MethodName) (⟨"ThreeModeJournalModel", "bring", "(I)Z"⟩ : MethodName) ∈ tj_T := tj_s (tj_pk1 (q := ((⟨"ThreeModeJournalModel", "bring", "(I)Z"⟩ : MethodName), 17)) 8 (by rfl)) (by rfl)
theorem S_25 : Cond.selects "ThreeModeJournalModel" (⟨"ThreeModeJournalModel", "spend", "()Z"⟩ : MethodName) (⟨"ThreeModeJournalModel", "spend", "()Z"⟩ : MethodName) ∈ tj_T := tj_s (tj_pk1 (q := ((⟨"ThreeModeJournalModel", "spend", "()Z"⟩ : MethodName), 17)) 9 (by rfl)) (by rfl)
theorem S_26 : Cond.selects "ThreeModeJournalModel" (⟨"ThreeModeJournalModel", "fail", "()V"⟩ : MethodName) (⟨"ThreeModeJournalModel", "fail", "()V"⟩ : MethodName) ∈ tj_T := tj_s (tj_pk1 (q := ((⟨"ThreeModeJournalModel", "fail", "()V"⟩ : MethodName), 17)) 10 (by rfl)) (by rfl)
theorem S_27 : Cond.selects "ThreeModeJournalModel" (⟨"ThreeModeJournalModel", "clean", "(I)V"⟩ : MethodName) (⟨"ThreeModeJournalModel", "clean", "(I)V"⟩ : MethodName) ∈ tj_T := tj_s (tj_pk1 (q := ((⟨"ThreeModeJournalModel", "clean", "(I)V"⟩ : MethodName), 17)) 11 (by rfl)) (by rfl)
theorem S_28 : Cond.selects "ThreeModeJournalModel" (⟨"ThreeModeJournalModel", "vacant", "()I"⟩ : MethodName) (⟨"ThreeModeJournalModel", "vacant", "()I"⟩ : MethodName) ∈ tj_T := tj_s (tj_pk1 (q := ((⟨"ThreeModeJournalModel", "vacant", "()I"⟩ : MethodName), 17)) 12 (by rfl)) (by rfl)
theorem S_29 : Cond.selects "ThreeModeJournalModel" (⟨"ThreeModeJournalModel", "retire", "(I)Z"⟩ : MethodName) (⟨"ThreeModeJournalModel", "retire", "(I)Z"⟩ : MethodName) ∈ tj_T := tj_s (tj_pk1 (q := ((⟨"ThreeModeJournalModel", "retire", "(I)Z"⟩ : MethodName), 17)) 13 (by rfl)) (by rfl)
theorem S_30 : Cond.selects "ThreeModeJournalModel" (⟨"ThreeModeJournalModel", "replay", "(IZ)Z"⟩ : MethodName) (⟨"ThreeModeJournalModel", "replay", "(IZ)Z"⟩ : MethodName) ∈ tj_T := tj_s (tj_pk1 (q := ((⟨"ThreeModeJournalModel", "replay", "(IZ)Z"⟩ : MethodName), 17)) 14 (by rfl)) (by rfl)
theorem S_31 : Cond.selects "ThreeModeJournalModel" (⟨"ThreeModeJournalModel", "later", "(IIZ)Z"⟩ : MethodName) (⟨"ThreeModeJournalModel", "later", "(IIZ)Z"⟩ : MethodName) ∈ tj_T := tj_s (tj_pk1 (q := ((⟨"ThreeModeJournalModel", "later", "(IIZ)Z"⟩ : MethodName), 17)) 15 (by rfl)) (by rfl)
theorem S_32 : Cond.selects "ThreeModeJournalModel" (⟨"ThreeModeJournalModel", "drop", "(I)V"⟩ : MethodName) (⟨"ThreeModeJournalModel", "drop", "(I)V"⟩ : MethodName) ∈ tj_T := tj_s (tj_pk2 (q := ((⟨"ThreeModeJournalModel", "drop", "(I)V"⟩ : MethodName), 17)) 0 (by rfl)) (by rfl)
theorem S_33 : Cond.selects "ThreeModeJournalModel" (⟨"ThreeModeJournalModel", "enter", "(I)V"⟩ : MethodName) (⟨"ThreeModeJournalModel", "enter", "(I)V"⟩ : MethodName) ∈ tj_T := tj_s (tj_pk2 (q := ((⟨"ThreeModeJournalModel", "enter", "(I)V"⟩ : MethodName), 17)) 1 (by rfl)) (by rfl)
theorem S_34 : Cond.selects "ThreeModeJournalModel" (⟨"ThreeModeJournalModel", "take", "(I)I"⟩ : MethodName) (⟨"ThreeModeJournalModel", "take", "(I)I"⟩ : MethodName) ∈ tj_T := tj_s (tj_pk2 (q := ((⟨"ThreeModeJournalModel", "take", "(I)I"⟩ : MethodName), 17)) 2 (by rfl)) (by rfl)
theorem S_35 : Cond.selects "ThreeModeJournalModel" (⟨"ThreeModeJournalModel", "remap", "()V"⟩ : MethodName) (⟨"ThreeModeJournalModel", "remap", "()V"⟩ : MethodName) ∈ tj_T := tj_s (tj_pk2 (q := ((⟨"ThreeModeJournalModel", "remap", "()V"⟩ : MethodName), 17)) 3 (by rfl)) (by rfl)
theorem S_36 : Cond.selects "ThreeModeJournalModel" (⟨"ThreeModeJournalModel", "cell", "(II)I"⟩ : MethodName) (⟨"ThreeModeJournalModel", "cell", "(II)I"⟩ : MethodName) ∈ tj_T := tj_s (tj_pk2 (q := ((⟨"ThreeModeJournalModel", "cell", "(II)I"⟩ : MethodName), 17)) 4 (by rfl)) (by rfl)
theorem S_37 : Cond.selects "ThreeModeJournalModel" (⟨"ThreeModeJournalModel", "isDirty", "(I)Z"⟩ : MethodName) (⟨"ThreeModeJournalModel", "isDirty", "(I)Z"⟩ : MethodName) ∈ tj_T := tj_s (tj_pk2 (q := ((⟨"ThreeModeJournalModel", "isDirty", "(I)Z"⟩ : MethodName), 17)) 5 (by rfl)) (by rfl)
theorem S_38 : Cond.selects "ThreeModeJournalModel" (⟨"ThreeModeJournalModel", "shorten", "(II)V"⟩ : MethodName) (⟨"ThreeModeJournalModel", "shorten", "(II)V"⟩ : MethodName) ∈ tj_T := tj_s (tj_pk2 (q := ((⟨"ThreeModeJournalModel", "shorten", "(II)V"⟩ : MethodName), 17)) 6 (by rfl)) (by rfl)
theorem S_39 : Cond.selects "ThreeModeJournalModel" (⟨"ThreeModeJournalModel", "release", "(IZ)V"⟩ : MethodName) (⟨"ThreeModeJournalModel", "release", "(IZ)V"⟩ : MethodName) ∈ tj_T := tj_s (tj_pk2 (q := ((⟨"ThreeModeJournalModel", "release", "(IZ)V"⟩ : MethodName), 17)) 7 (by rfl)) (by rfl)
theorem S_40 : Cond.selects "ThreeModeJournalModel" (⟨"ThreeModeJournalModel", "owns", "(II)Z"⟩ : MethodName) (⟨"ThreeModeJournalModel", "owns", "(II)Z"⟩ : MethodName) ∈ tj_T := tj_s (tj_pk2 (q := ((⟨"ThreeModeJournalModel", "owns", "(II)Z"⟩ : MethodName), 17)) 8 (by rfl)) (by rfl)
theorem F_X_ok : tj_F "ThreeModeJournal" F_X 4 ty_X tj_T := by
  refine ⟨fun w hw => ?_, by decide +kernel, by decide +kernel⟩
  obtain ⟨k, hk, rfl⟩ := List.mem_map.mp hw
  have hk := List.mem_range.mp hk
  match k, hk with
  | 0, _ => exact T_126
  | 1, _ => exact T_128
  | 2, _ => exact T_130
  | 3, _ => exact T_132
theorem F_Power_ok : tj_F "ThreeModeJournal$Power" F_Power 3 ty_Power tj_T := by
  refine ⟨fun w hw => ?_, by decide +kernel, by decide +kernel⟩
  obtain ⟨k, hk, rfl⟩ := List.mem_map.mp hw
  have hk := List.mem_range.mp hk
  match k, hk with
  | 0, _ => exact T_36
  | 1, _ => exact T_38
  | 2, _ => exact T_40
theorem F_Disk_ok : tj_F "ThreeModeJournal$Disk" F_Disk 3 ty_Disk tj_T := by
  refine ⟨fun w hw => ?_, by decide +kernel, by decide +kernel⟩
  obtain ⟨k, hk, rfl⟩ := List.mem_map.mp hw
  have hk := List.mem_range.mp hk
  match k, hk with
  | 0, _ => exact T_85
  | 1, _ => exact T_87
  | 2, _ => exact T_89
theorem F_Log_ok : tj_F "ThreeModeJournal$Log" F_Log 8 ty_Log tj_T := by
  refine ⟨fun w hw => ?_, by decide +kernel, by decide +kernel⟩
  obtain ⟨k, hk, rfl⟩ := List.mem_map.mp hw
  have hk := List.mem_range.mp hk
  match k, hk with
  | 0, _ => exact T_61
  | 1, _ => exact T_63
  | 2, _ => exact T_65
  | 3, _ => exact T_67
  | 4, _ => exact T_69
  | 5, _ => exact T_71
  | 6, _ => exact T_73
  | 7, _ => exact T_75
theorem F_Mem_ok : tj_F "ThreeModeJournal$Memory" F_Mem 6 ty_Mem tj_T := by
  refine ⟨fun w hw => ?_, by decide +kernel, by decide +kernel⟩
  obtain ⟨k, hk, rfl⟩ := List.mem_map.mp hw
  have hk := List.mem_range.mp hk
  match k, hk with
  | 0, _ => exact T_109
  | 1, _ => exact T_111
  | 2, _ => exact T_113
  | 3, _ => exact T_115
  | 4, _ => exact T_117
  | 5, _ => exact T_119
theorem F_Mod_ok : tj_F "ThreeModeJournalModel" F_Mod 17 ty_Mod tj_T := by
  refine ⟨fun w hw => ?_, by decide +kernel, by decide +kernel⟩
  obtain ⟨k, hk, rfl⟩ := List.mem_map.mp hw
  have hk := List.mem_range.mp hk
  match k, hk with
  | 0, _ => exact T_490
  | 1, _ => exact T_492
  | 2, _ => exact T_494
  | 3, _ => exact T_496
  | 4, _ => exact T_498
  | 5, _ => exact T_500
  | 6, _ => exact T_502
  | 7, _ => exact T_504
  | 8, _ => exact T_506
  | 9, _ => exact T_508
  | 10, _ => exact T_510
  | 11, _ => exact T_512
  | 12, _ => exact T_514
  | 13, _ => exact T_516
  | 14, _ => exact T_518
  | 15, _ => exact T_520
  | 16, _ => exact T_522
  | n + 17, hk => exact absurd hk (by omega)
end
section
theorem d_Power_makeWrite_0 : decode b_Power_makeWrite 0 = .ok (.aload_n 0, 1) := by decide +kernel
theorem d_Power_makeWrite_1 : decode b_Power_makeWrite 1 = .ok (.getfield 15, 3) := by decide +kernel
theorem d_Power_makeWrite_4 : decode b_Power_makeWrite 4 = .ok (.ifCond .ne 15, 3) := by decide +kernel
theorem d_Power_makeWrite_7 : decode b_Power_makeWrite 7 = .ok (.aload_n 0, 1) := by decide +kernel
theorem d_Power_makeWrite_8 : decode b_Power_makeWrite 8 = .ok (.iconst 0, 1) := by decide +kernel
theorem d_Power_makeWrite_9 : decode b_Power_makeWrite 9 = .ok (.putfield 9, 3) := by decide +kernel
theorem d_Power_makeWrite_12 : decode b_Power_makeWrite 12 = .ok (.aload_n 0, 1) := by decide +kernel
theorem d_Power_makeWrite_13 : decode b_Power_makeWrite 13 = .ok (.iconst (-1), 1) := by decide +kernel
theorem d_Power_makeWrite_14 : decode b_Power_makeWrite 14 = .ok (.putfield 15, 3) := by decide +kernel
theorem d_Power_makeWrite_17 : decode b_Power_makeWrite 17 = .ok (.iconst 0, 1) := by decide +kernel
theorem d_Power_makeWrite_18 : decode b_Power_makeWrite 18 = .ok (.ireturn, 1) := by decide +kernel
theorem d_Power_makeWrite_19 : decode b_Power_makeWrite 19 = .ok (.aload_n 0, 1) := by decide +kernel
theorem d_Power_makeWrite_20 : decode b_Power_makeWrite 20 = .ok (.getfield 15, 3) := by decide +kernel
theorem d_Power_makeWrite_23 : decode b_Power_makeWrite 23 = .ok (.ifCond .le 13, 3) := by decide +kernel
theorem d_Power_makeWrite_26 : decode b_Power_makeWrite 26 = .ok (.aload_n 0, 1) := by decide +kernel
theorem d_Power_makeWrite_27 : decode b_Power_makeWrite 27 = .ok (.dup, 1) := by decide +kernel
theorem d_Power_makeWrite_28 : decode b_Power_makeWrite 28 = .ok (.getfield 15, 3) := by decide +kernel
theorem d_Power_makeWrite_31 : decode b_Power_makeWrite 31 = .ok (.iconst 1, 1) := by decide +kernel
theorem d_Power_makeWrite_32 : decode b_Power_makeWrite 32 = .ok (.isub, 1) := by decide +kernel
theorem d_Power_makeWrite_33 : decode b_Power_makeWrite 33 = .ok (.putfield 15, 3) := by decide +kernel
theorem d_Power_makeWrite_36 : decode b_Power_makeWrite 36 = .ok (.aload_n 0, 1) := by decide +kernel
theorem d_Power_makeWrite_37 : decode b_Power_makeWrite 37 = .ok (.dup, 1) := by decide +kernel
theorem d_Power_makeWrite_38 : decode b_Power_makeWrite 38 = .ok (.getfield 19, 3) := by decide +kernel
theorem d_Power_makeWrite_41 : decode b_Power_makeWrite 41 = .ok (.iconst 1, 1) := by decide +kernel
theorem d_Power_makeWrite_42 : decode b_Power_makeWrite 42 = .ok (.iadd, 1) := by decide +kernel
theorem d_Power_makeWrite_43 : decode b_Power_makeWrite 43 = .ok (.putfield 19, 3) := by decide +kernel
theorem d_Power_makeWrite_46 : decode b_Power_makeWrite 46 = .ok (.iconst 1, 1) := by decide +kernel
theorem d_Power_makeWrite_47 : decode b_Power_makeWrite 47 = .ok (.ireturn, 1) := by decide +kernel
def f_Power_makeWrite (s0 : tj_S) : Option (Int32 × tj_S) :=
  if (s0 1 1) = (0 : Int32) then
    nm (up2 s0 1 0 (0 : Int32)) fun s5 =>
    nm (up2 s5 1 1 (-1 : Int32)) fun s6 =>
    some ((0 : Int32), s6)
  else
    if (s0 1 1) ≤ (0 : Int32) then
      nm (up2 s0 1 2 ((s0 1 2) + (1 : Int32))) fun s1 =>
      some ((1 : Int32), s1)
    else
      nm (up2 s0 1 1 ((s0 1 1) - (1 : Int32))) fun s2 =>
      nm (up2 s2 1 2 ((s2 1 2) + (1 : Int32))) fun s3 =>
      some ((1 : Int32), s3)
set_option maxRecDepth 100000 in
set_option maxHeartbeats 4000000 in
theorem c_Power_makeWrite {l : Launch} {D : va_G} {K : Nat → ClassId} {q : Nat → Nat} {s0 sE : tj_S} {rE : Int32} (h : f_Power_makeWrite s0 = some (rE, sE)) : tj_Mi l D tj_cls (X_tys K) tj_N tj_T (X_cw K q) y_Power_makeWrite b_Power_makeWrite 1 .boolean 0 0 [.ref (q 1)] s0 rE sE := by
  refine tj_start_i (by decide +kernel) (Nat.le_of_ble_eq_true rfl) (fun Γ C fin => ?_)
  show tj_W Γ (X_cw K q) s0 [(0, .ref (q 1))] 0 []
  unfold f_Power_makeWrite at h
  refine xw_aload_n C d_Power_makeWrite_0 0 rfl ?_
  refine xw_get C F_Power_ok 1 rfl rfl 1 (by decide) T_32 rfl d_Power_makeWrite_1 ?_
  refine xw_if_ne C d_Power_makeWrite_4 (tgt := 19) (by decide) (fun hc7 => ?_) (fun hc7 => ?_)
  · replace h := it_f hc7 h
    refine xw_aload_n C d_Power_makeWrite_19 0 rfl ?_
    refine xw_get C F_Power_ok 1 rfl rfl 1 (by decide) T_32 rfl d_Power_makeWrite_20 ?_
    refine xw_if_le C d_Power_makeWrite_23 (tgt := 36) (by decide) (fun hc4 => ?_) (fun hc4 => ?_)
    · replace h := it_t hc4 h
      refine xw_aload_n C d_Power_makeWrite_36 0 rfl ?_
      refine xw_dup C d_Power_makeWrite_37 rfl ?_
      refine xw_get C F_Power_ok 1 rfl rfl 2 (by decide) T_34 rfl d_Power_makeWrite_38 ?_
      refine xw_iconst C d_Power_makeWrite_41 (v := 1) (by decide) ?_
      refine xw_iadd C d_Power_makeWrite_42 ?_
      refine xw_put C F_Power_ok 1 rfl rfl 2 (by decide) T_34 rfl rfl rfl (Nat.le_of_ble_eq_true rfl) d_Power_makeWrite_43 (σ1 := (up2 s0 1 2 ((s0 1 2) + (1 : Int32)))) rfl ?_
      refine xw_ns h (fun s1 h => ?_)
      refine xw_iconst C d_Power_makeWrite_46 (v := 1) (by decide) ?_
      exact fin _ _ _ _ h d_Power_makeWrite_47 rfl
    · replace h := it_f hc4 h
      refine xw_aload_n C d_Power_makeWrite_26 0 rfl ?_
      refine xw_dup C d_Power_makeWrite_27 rfl ?_
      refine xw_get C F_Power_ok 1 rfl rfl 1 (by decide) T_32 rfl d_Power_makeWrite_28 ?_
      refine xw_iconst C d_Power_makeWrite_31 (v := 1) (by decide) ?_
      refine xw_isub C d_Power_makeWrite_32 ?_
      refine xw_put C F_Power_ok 1 rfl rfl 1 (by decide) T_32 rfl rfl rfl (Nat.le_of_ble_eq_true rfl) d_Power_makeWrite_33 (σ1 := (up2 s0 1 1 ((s0 1 1) - (1 : Int32)))) rfl ?_
      refine xw_ns h (fun s2 h => ?_)
      refine xw_aload_n C d_Power_makeWrite_36 0 rfl ?_
      refine xw_dup C d_Power_makeWrite_37 rfl ?_
      refine xw_get C F_Power_ok 1 rfl rfl 2 (by decide) T_34 rfl d_Power_makeWrite_38 ?_
      refine xw_iconst C d_Power_makeWrite_41 (v := 1) (by decide) ?_
      refine xw_iadd C d_Power_makeWrite_42 ?_
      refine xw_put C F_Power_ok 1 rfl rfl 2 (by decide) T_34 rfl rfl rfl (Nat.le_of_ble_eq_true rfl) d_Power_makeWrite_43 (σ1 := (up2 s2 1 2 ((s2 1 2) + (1 : Int32)))) rfl ?_
      refine xw_ns h (fun s3 h => ?_)
      refine xw_iconst C d_Power_makeWrite_46 (v := 1) (by decide) ?_
      exact fin _ _ _ _ h d_Power_makeWrite_47 rfl
  · replace h := it_t hc7 h
    refine xw_aload_n C d_Power_makeWrite_7 0 rfl ?_
    refine xw_iconst C d_Power_makeWrite_8 (v := 0) (by decide) ?_
    refine xw_put C F_Power_ok 1 rfl rfl 0 (by decide) T_30 rfl rfl rfl (Nat.le_of_ble_eq_true rfl) d_Power_makeWrite_9 (σ1 := (up2 s0 1 0 (0 : Int32))) rfl ?_
    refine xw_ns h (fun s5 h => ?_)
    refine xw_aload_n C d_Power_makeWrite_12 0 rfl ?_
    refine xw_iconst C d_Power_makeWrite_13 (v := -1) (by decide) ?_
    refine xw_put C F_Power_ok 1 rfl rfl 1 (by decide) T_32 rfl rfl rfl (Nat.le_of_ble_eq_true rfl) d_Power_makeWrite_14 (σ1 := (up2 s5 1 1 (-1 : Int32))) rfl ?_
    refine xw_ns h (fun s6 h => ?_)
    refine xw_iconst C d_Power_makeWrite_17 (v := 0) (by decide) ?_
    exact fin _ _ _ _ h d_Power_makeWrite_18 rfl
end
