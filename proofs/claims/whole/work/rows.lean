section
-- ===== PART A: goes FIRST, ahead of the names: the tables' words, and 'selects' of the private methods out of them =====
/-- a private method of a class that the tables say can be made, by its rows of tables_1 -/
def lw_okq (q : MethodName × Nat) : Prop := (q.1.cls ≠ "java/lang/invoke/MethodHandle" ∧ q.1.cls ≠ "java/lang/invoke/VarHandle") ∧ Cond.instantiable q.1.cls q.2 ∈ tables_1 ∧ Cond.privateMethod q.1 ∈ tables_1 ∧ Cond.instanceMethod q.1 ∈ tables_1
theorem lw_p0 : lw_okq (⟨"FreshShares", "shareFacts", "(II)I"⟩, 4) := ⟨⟨by decide +kernel, by decide +kernel⟩, List.mem_of_getElem? (i := 14) (by decide +kernel), List.mem_of_getElem? (i := 188) (by decide +kernel), List.mem_of_getElem? (i := 189) (by decide +kernel)⟩
theorem lw_p1 : lw_okq (⟨"FreshShares$Script", "canStand", "(I)Z"⟩, 2) := ⟨⟨by decide +kernel, by decide +kernel⟩, List.mem_of_getElem? (i := 22) (by decide +kernel), List.mem_of_getElem? (i := 241) (by decide +kernel), List.mem_of_getElem? (i := 242) (by decide +kernel)⟩
theorem lw_p2 : lw_okq (⟨"FreshShares$Script", "firstOfSet", "()I"⟩, 2) := ⟨⟨by decide +kernel, by decide +kernel⟩, List.mem_of_getElem? (i := 22) (by decide +kernel), List.mem_of_getElem? (i := 260) (by decide +kernel), List.mem_of_getElem? (i := 261) (by decide +kernel)⟩
theorem lw_p3 : lw_okq (⟨"FreshShares$Script", "fewestSigns", "()I"⟩, 2) := ⟨⟨by decide +kernel, by decide +kernel⟩, List.mem_of_getElem? (i := 22) (by decide +kernel), List.mem_of_getElem? (i := 265) (by decide +kernel), List.mem_of_getElem? (i := 266) (by decide +kernel)⟩
theorem lw_p4 : lw_okq (⟨"FreshShares$Orders", "isFull", "(I)Z"⟩, 6) := ⟨⟨by decide +kernel, by decide +kernel⟩, List.mem_of_getElem? (i := 37) (by decide +kernel), List.mem_of_getElem? (i := 282) (by decide +kernel), List.mem_of_getElem? (i := 283) (by decide +kernel)⟩
theorem lw_p5 : lw_okq (⟨"FreshShares$Orders", "deal", "(I)I"⟩, 6) := ⟨⟨by decide +kernel, by decide +kernel⟩, List.mem_of_getElem? (i := 37) (by decide +kernel), List.mem_of_getElem? (i := 302) (by decide +kernel), List.mem_of_getElem? (i := 303) (by decide +kernel)⟩
theorem lw_p6 : lw_okq (⟨"FreshShares$Orders", "fresh", "()I"⟩, 6) := ⟨⟨by decide +kernel, by decide +kernel⟩, List.mem_of_getElem? (i := 37) (by decide +kernel), List.mem_of_getElem? (i := 320) (by decide +kernel), List.mem_of_getElem? (i := 321) (by decide +kernel)⟩
theorem lw_p7 : lw_okq (⟨"FreshShares$Orders", "offer", "(III)V"⟩, 6) := ⟨⟨by decide +kernel, by decide +kernel⟩, List.mem_of_getElem? (i := 37) (by decide +kernel), List.mem_of_getElem? (i := 325) (by decide +kernel), List.mem_of_getElem? (i := 326) (by decide +kernel)⟩
theorem lw_p8 : lw_okq (⟨"FreshShares$Orders", "sent", "(III)I"⟩, 6) := ⟨⟨by decide +kernel, by decide +kernel⟩, List.mem_of_getElem? (i := 37) (by decide +kernel), List.mem_of_getElem? (i := 329) (by decide +kernel), List.mem_of_getElem? (i := 330) (by decide +kernel)⟩
theorem lw_p9 : lw_okq (⟨"FreshShares$Orders", "pourTaken", "(I)V"⟩, 6) := ⟨⟨by decide +kernel, by decide +kernel⟩, List.mem_of_getElem? (i := 37) (by decide +kernel), List.mem_of_getElem? (i := 336) (by decide +kernel), List.mem_of_getElem? (i := 337) (by decide +kernel)⟩
theorem lw_p10 : lw_okq (⟨"FreshShares$Orders", "pour", "(II)V"⟩, 6) := ⟨⟨by decide +kernel, by decide +kernel⟩, List.mem_of_getElem? (i := 37) (by decide +kernel), List.mem_of_getElem? (i := 340) (by decide +kernel), List.mem_of_getElem? (i := 341) (by decide +kernel)⟩
theorem lw_p11 : lw_okq (⟨"FreshShares$Orders", "closeEpoch", "(I)I"⟩, 6) := ⟨⟨by decide +kernel, by decide +kernel⟩, List.mem_of_getElem? (i := 37) (by decide +kernel), List.mem_of_getElem? (i := 346) (by decide +kernel), List.mem_of_getElem? (i := 347) (by decide +kernel)⟩
theorem lw_p12 : lw_okq (⟨"FreshShares$Orders", "openedByThose", "(II)I"⟩, 6) := ⟨⟨by decide +kernel, by decide +kernel⟩, List.mem_of_getElem? (i := 37) (by decide +kernel), List.mem_of_getElem? (i := 356) (by decide +kernel), List.mem_of_getElem? (i := 357) (by decide +kernel)⟩
theorem lw_p13 : lw_okq (⟨"FreshShares$Orders", "hear", "(I)Z"⟩, 6) := ⟨⟨by decide +kernel, by decide +kernel⟩, List.mem_of_getElem? (i := 37) (by decide +kernel), List.mem_of_getElem? (i := 360) (by decide +kernel), List.mem_of_getElem? (i := 361) (by decide +kernel)⟩
theorem lw_p14 : lw_okq (⟨"FreshShares$Orders", "lose", "(I)I"⟩, 6) := ⟨⟨by decide +kernel, by decide +kernel⟩, List.mem_of_getElem? (i := 37) (by decide +kernel), List.mem_of_getElem? (i := 385) (by decide +kernel), List.mem_of_getElem? (i := 386) (by decide +kernel)⟩
theorem lw_p15 : lw_okq (⟨"FreshShares$Orders", "rebuild", "(II)I"⟩, 6) := ⟨⟨by decide +kernel, by decide +kernel⟩, List.mem_of_getElem? (i := 37) (by decide +kernel), List.mem_of_getElem? (i := 389) (by decide +kernel), List.mem_of_getElem? (i := 390) (by decide +kernel)⟩
def lw_privs_1 : List (MethodName × Nat) := [(⟨"FreshShares", "shareFacts", "(II)I"⟩, 4), (⟨"FreshShares$Script", "canStand", "(I)Z"⟩, 2), (⟨"FreshShares$Script", "firstOfSet", "()I"⟩, 2), (⟨"FreshShares$Script", "fewestSigns", "()I"⟩, 2), (⟨"FreshShares$Orders", "isFull", "(I)Z"⟩, 6), (⟨"FreshShares$Orders", "deal", "(I)I"⟩, 6), (⟨"FreshShares$Orders", "fresh", "()I"⟩, 6), (⟨"FreshShares$Orders", "offer", "(III)V"⟩, 6), (⟨"FreshShares$Orders", "sent", "(III)I"⟩, 6), (⟨"FreshShares$Orders", "pourTaken", "(I)V"⟩, 6), (⟨"FreshShares$Orders", "pour", "(II)V"⟩, 6), (⟨"FreshShares$Orders", "closeEpoch", "(I)I"⟩, 6), (⟨"FreshShares$Orders", "openedByThose", "(II)I"⟩, 6), (⟨"FreshShares$Orders", "hear", "(I)Z"⟩, 6), (⟨"FreshShares$Orders", "lose", "(I)I"⟩, 6), (⟨"FreshShares$Orders", "rebuild", "(II)I"⟩, 6)]
theorem lw_r1 : ∀ q ∈ lw_privs_1, lw_okq q := List.forall_mem_cons.mpr ⟨lw_p0, List.forall_mem_cons.mpr ⟨lw_p1, List.forall_mem_cons.mpr ⟨lw_p2, List.forall_mem_cons.mpr ⟨lw_p3, List.forall_mem_cons.mpr ⟨lw_p4, List.forall_mem_cons.mpr ⟨lw_p5, List.forall_mem_cons.mpr ⟨lw_p6, List.forall_mem_cons.mpr ⟨lw_p7, List.forall_mem_cons.mpr ⟨lw_p8, List.forall_mem_cons.mpr ⟨lw_p9, List.forall_mem_cons.mpr ⟨lw_p10, List.forall_mem_cons.mpr ⟨lw_p11, List.forall_mem_cons.mpr ⟨lw_p12, List.forall_mem_cons.mpr ⟨lw_p13, List.forall_mem_cons.mpr ⟨lw_p14, List.forall_mem_cons.mpr ⟨lw_p15, fun _ h => absurd h List.not_mem_nil⟩⟩⟩⟩⟩⟩⟩⟩⟩⟩⟩⟩⟩⟩⟩⟩
theorem lw_p16 : lw_okq (⟨"FreshShares$Orders", "move", "(II)I"⟩, 6) := ⟨⟨by decide +kernel, by decide +kernel⟩, List.mem_of_getElem? (i := 37) (by decide +kernel), List.mem_of_getElem? (i := 394) (by decide +kernel), List.mem_of_getElem? (i := 395) (by decide +kernel)⟩
theorem lw_p17 : lw_okq (⟨"FreshShares$Orders", "steal", "(I)I"⟩, 6) := ⟨⟨by decide +kernel, by decide +kernel⟩, List.mem_of_getElem? (i := 37) (by decide +kernel), List.mem_of_getElem? (i := 402) (by decide +kernel), List.mem_of_getElem? (i := 403) (by decide +kernel)⟩
theorem lw_p18 : lw_okq (⟨"FreshShares", "keptImages", "()I"⟩, 4) := ⟨⟨by decide +kernel, by decide +kernel⟩, List.mem_of_getElem? (i := 14) (by decide +kernel), List.mem_of_getElem? (i := 502) (by decide +kernel), List.mem_of_getElem? (i := 503) (by decide +kernel)⟩
theorem lw_p19 : lw_okq (⟨"FreshSharesModel", "bentOf", "(II)I"⟩, 9) := ⟨⟨by decide +kernel, by decide +kernel⟩, List.mem_of_getElem? (i := 507) (by decide +kernel), List.mem_of_getElem? (i := 562) (by decide +kernel), List.mem_of_getElem? (i := 563) (by decide +kernel)⟩
theorem lw_p20 : lw_okq (⟨"FreshSharesModel", "hasShare", "(I)Z"⟩, 9) := ⟨⟨by decide +kernel, by decide +kernel⟩, List.mem_of_getElem? (i := 507) (by decide +kernel), List.mem_of_getElem? (i := 570) (by decide +kernel), List.mem_of_getElem? (i := 571) (by decide +kernel)⟩
theorem lw_p21 : lw_okq (⟨"FreshSharesModel", "told", "(I)I"⟩, 9) := ⟨⟨by decide +kernel, by decide +kernel⟩, List.mem_of_getElem? (i := 507) (by decide +kernel), List.mem_of_getElem? (i := 574) (by decide +kernel), List.mem_of_getElem? (i := 575) (by decide +kernel)⟩
theorem lw_p22 : lw_okq (⟨"FreshSharesModel", "isFit", "(II)Z"⟩, 9) := ⟨⟨by decide +kernel, by decide +kernel⟩, List.mem_of_getElem? (i := 507) (by decide +kernel), List.mem_of_getElem? (i := 581) (by decide +kernel), List.mem_of_getElem? (i := 582) (by decide +kernel)⟩
theorem lw_p23 : lw_okq (⟨"FreshSharesModel", "faultNow", "()I"⟩, 9) := ⟨⟨by decide +kernel, by decide +kernel⟩, List.mem_of_getElem? (i := 507) (by decide +kernel), List.mem_of_getElem? (i := 603) (by decide +kernel), List.mem_of_getElem? (i := 604) (by decide +kernel)⟩
theorem lw_p24 : lw_okq (⟨"FreshSharesModel", "canStand", "(I)Z"⟩, 9) := ⟨⟨by decide +kernel, by decide +kernel⟩, List.mem_of_getElem? (i := 507) (by decide +kernel), List.mem_of_getElem? (i := 610) (by decide +kernel), List.mem_of_getElem? (i := 611) (by decide +kernel)⟩
theorem lw_p25 : lw_okq (⟨"FreshSharesModel", "figure", "(I)I"⟩, 9) := ⟨⟨by decide +kernel, by decide +kernel⟩, List.mem_of_getElem? (i := 507) (by decide +kernel), List.mem_of_getElem? (i := 614) (by decide +kernel), List.mem_of_getElem? (i := 615) (by decide +kernel)⟩
theorem lw_p26 : lw_okq (⟨"FreshSharesModel", "isDealt", "()Z"⟩, 9) := ⟨⟨by decide +kernel, by decide +kernel⟩, List.mem_of_getElem? (i := 507) (by decide +kernel), List.mem_of_getElem? (i := 635) (by decide +kernel), List.mem_of_getElem? (i := 636) (by decide +kernel)⟩
theorem lw_p27 : lw_okq (⟨"FreshSharesModel", "done", "(I)I"⟩, 9) := ⟨⟨by decide +kernel, by decide +kernel⟩, List.mem_of_getElem? (i := 507) (by decide +kernel), List.mem_of_getElem? (i := 639) (by decide +kernel), List.mem_of_getElem? (i := 640) (by decide +kernel)⟩
theorem lw_p28 : lw_okq (⟨"FreshSharesModel", "deal", "(I)I"⟩, 9) := ⟨⟨by decide +kernel, by decide +kernel⟩, List.mem_of_getElem? (i := 507) (by decide +kernel), List.mem_of_getElem? (i := 643) (by decide +kernel), List.mem_of_getElem? (i := 644) (by decide +kernel)⟩
theorem lw_p29 : lw_okq (⟨"FreshSharesModel", "layPoly", "(III)V"⟩, 9) := ⟨⟨by decide +kernel, by decide +kernel⟩, List.mem_of_getElem? (i := 507) (by decide +kernel), List.mem_of_getElem? (i := 647) (by decide +kernel), List.mem_of_getElem? (i := 648) (by decide +kernel)⟩
theorem lw_p30 : lw_okq (⟨"FreshSharesModel", "polyAt", "(I)I"⟩, 9) := ⟨⟨by decide +kernel, by decide +kernel⟩, List.mem_of_getElem? (i := 507) (by decide +kernel), List.mem_of_getElem? (i := 651) (by decide +kernel), List.mem_of_getElem? (i := 652) (by decide +kernel)⟩
theorem lw_p31 : lw_okq (⟨"FreshSharesModel", "nextEpoch", "()V"⟩, 9) := ⟨⟨by decide +kernel, by decide +kernel⟩, List.mem_of_getElem? (i := 507) (by decide +kernel), List.mem_of_getElem? (i := 655) (by decide +kernel), List.mem_of_getElem? (i := 656) (by decide +kernel)⟩
def lw_privs_2 : List (MethodName × Nat) := [(⟨"FreshShares$Orders", "move", "(II)I"⟩, 6), (⟨"FreshShares$Orders", "steal", "(I)I"⟩, 6), (⟨"FreshShares", "keptImages", "()I"⟩, 4), (⟨"FreshSharesModel", "bentOf", "(II)I"⟩, 9), (⟨"FreshSharesModel", "hasShare", "(I)Z"⟩, 9), (⟨"FreshSharesModel", "told", "(I)I"⟩, 9), (⟨"FreshSharesModel", "isFit", "(II)Z"⟩, 9), (⟨"FreshSharesModel", "faultNow", "()I"⟩, 9), (⟨"FreshSharesModel", "canStand", "(I)Z"⟩, 9), (⟨"FreshSharesModel", "figure", "(I)I"⟩, 9), (⟨"FreshSharesModel", "isDealt", "()Z"⟩, 9), (⟨"FreshSharesModel", "done", "(I)I"⟩, 9), (⟨"FreshSharesModel", "deal", "(I)I"⟩, 9), (⟨"FreshSharesModel", "layPoly", "(III)V"⟩, 9), (⟨"FreshSharesModel", "polyAt", "(I)I"⟩, 9), (⟨"FreshSharesModel", "nextEpoch", "()V"⟩, 9)]
theorem lw_r2 : ∀ q ∈ lw_privs_2, lw_okq q := List.forall_mem_cons.mpr ⟨lw_p16, List.forall_mem_cons.mpr ⟨lw_p17, List.forall_mem_cons.mpr ⟨lw_p18, List.forall_mem_cons.mpr ⟨lw_p19, List.forall_mem_cons.mpr ⟨lw_p20, List.forall_mem_cons.mpr ⟨lw_p21, List.forall_mem_cons.mpr ⟨lw_p22, List.forall_mem_cons.mpr ⟨lw_p23, List.forall_mem_cons.mpr ⟨lw_p24, List.forall_mem_cons.mpr ⟨lw_p25, List.forall_mem_cons.mpr ⟨lw_p26, List.forall_mem_cons.mpr ⟨lw_p27, List.forall_mem_cons.mpr ⟨lw_p28, List.forall_mem_cons.mpr ⟨lw_p29, List.forall_mem_cons.mpr ⟨lw_p30, List.forall_mem_cons.mpr ⟨lw_p31, fun _ h => absurd h List.not_mem_nil⟩⟩⟩⟩⟩⟩⟩⟩⟩⟩⟩⟩⟩⟩⟩⟩
theorem lw_p32 : lw_okq (⟨"FreshSharesModel", "forget", "(I)I"⟩, 9) := ⟨⟨by decide +kernel, by decide +kernel⟩, List.mem_of_getElem? (i := 507) (by decide +kernel), List.mem_of_getElem? (i := 659) (by decide +kernel), List.mem_of_getElem? (i := 660) (by decide +kernel)⟩
theorem lw_p33 : lw_okq (⟨"FreshSharesModel", "having", "()I"⟩, 9) := ⟨⟨by decide +kernel, by decide +kernel⟩, List.mem_of_getElem? (i := 507) (by decide +kernel), List.mem_of_getElem? (i := 663) (by decide +kernel), List.mem_of_getElem? (i := 664) (by decide +kernel)⟩
theorem lw_p34 : lw_okq (⟨"FreshSharesModel", "open", "()I"⟩, 9) := ⟨⟨by decide +kernel, by decide +kernel⟩, List.mem_of_getElem? (i := 507) (by decide +kernel), List.mem_of_getElem? (i := 670) (by decide +kernel), List.mem_of_getElem? (i := 671) (by decide +kernel)⟩
theorem lw_p35 : lw_okq (⟨"FreshSharesModel", "honest", "(I)I"⟩, 9) := ⟨⟨by decide +kernel, by decide +kernel⟩, List.mem_of_getElem? (i := 507) (by decide +kernel), List.mem_of_getElem? (i := 674) (by decide +kernel), List.mem_of_getElem? (i := 675) (by decide +kernel)⟩
theorem lw_p36 : lw_okq (⟨"FreshSharesModel", "together", "(II)I"⟩, 9) := ⟨⟨by decide +kernel, by decide +kernel⟩, List.mem_of_getElem? (i := 507) (by decide +kernel), List.mem_of_getElem? (i := 681) (by decide +kernel), List.mem_of_getElem? (i := 682) (by decide +kernel)⟩
theorem lw_p37 : lw_okq (⟨"FreshSharesModel", "rebuild", "()I"⟩, 9) := ⟨⟨by decide +kernel, by decide +kernel⟩, List.mem_of_getElem? (i := 507) (by decide +kernel), List.mem_of_getElem? (i := 685) (by decide +kernel), List.mem_of_getElem? (i := 686) (by decide +kernel)⟩
theorem lw_p38 : lw_okq (⟨"FreshSharesModel", "steal", "(I)I"⟩, 9) := ⟨⟨by decide +kernel, by decide +kernel⟩, List.mem_of_getElem? (i := 507) (by decide +kernel), List.mem_of_getElem? (i := 689) (by decide +kernel), List.mem_of_getElem? (i := 690) (by decide +kernel)⟩
theorem lw_p39 : lw_okq (⟨"FreshSharesModel", "fresh", "()I"⟩, 9) := ⟨⟨by decide +kernel, by decide +kernel⟩, List.mem_of_getElem? (i := 507) (by decide +kernel), List.mem_of_getElem? (i := 693) (by decide +kernel), List.mem_of_getElem? (i := 694) (by decide +kernel)⟩
theorem lw_p40 : lw_okq (⟨"FreshSharesModel", "isStruck", "(I)Z"⟩, 9) := ⟨⟨by decide +kernel, by decide +kernel⟩, List.mem_of_getElem? (i := 507) (by decide +kernel), List.mem_of_getElem? (i := 697) (by decide +kernel), List.mem_of_getElem? (i := 698) (by decide +kernel)⟩
theorem lw_p41 : lw_okq (⟨"FreshSharesModel", "fitsPoly", "(II)Z"⟩, 9) := ⟨⟨by decide +kernel, by decide +kernel⟩, List.mem_of_getElem? (i := 507) (by decide +kernel), List.mem_of_getElem? (i := 701) (by decide +kernel), List.mem_of_getElem? (i := 702) (by decide +kernel)⟩
theorem lw_p42 : lw_okq (⟨"FreshSharesModel", "strike", "()V"⟩, 9) := ⟨⟨by decide +kernel, by decide +kernel⟩, List.mem_of_getElem? (i := 507) (by decide +kernel), List.mem_of_getElem? (i := 705) (by decide +kernel), List.mem_of_getElem? (i := 706) (by decide +kernel)⟩
theorem lw_p43 : lw_okq (⟨"FreshSharesModel", "move", "(I)I"⟩, 9) := ⟨⟨by decide +kernel, by decide +kernel⟩, List.mem_of_getElem? (i := 507) (by decide +kernel), List.mem_of_getElem? (i := 709) (by decide +kernel), List.mem_of_getElem? (i := 710) (by decide +kernel)⟩
theorem lw_p44 : lw_okq (⟨"FreshSharesModel", "takenFor", "(I)I"⟩, 9) := ⟨⟨by decide +kernel, by decide +kernel⟩, List.mem_of_getElem? (i := 507) (by decide +kernel), List.mem_of_getElem? (i := 713) (by decide +kernel), List.mem_of_getElem? (i := 714) (by decide +kernel)⟩
theorem lw_p45 : lw_okq (⟨"FreshSharesModel", "isEpoch", "(I)Z"⟩, 9) := ⟨⟨by decide +kernel, by decide +kernel⟩, List.mem_of_getElem? (i := 507) (by decide +kernel), List.mem_of_getElem? (i := 737) (by decide +kernel), List.mem_of_getElem? (i := 738) (by decide +kernel)⟩
theorem lw_p46 : lw_okq (⟨"FreshSharesModel", "isWorld", "(I)Z"⟩, 9) := ⟨⟨by decide +kernel, by decide +kernel⟩, List.mem_of_getElem? (i := 507) (by decide +kernel), List.mem_of_getElem? (i := 741) (by decide +kernel), List.mem_of_getElem? (i := 742) (by decide +kernel)⟩
theorem lw_p47 : lw_okq (⟨"FreshSharesModel", "lootOf", "(II)I"⟩, 9) := ⟨⟨by decide +kernel, by decide +kernel⟩, List.mem_of_getElem? (i := 507) (by decide +kernel), List.mem_of_getElem? (i := 745) (by decide +kernel), List.mem_of_getElem? (i := 746) (by decide +kernel)⟩
def lw_privs_3 : List (MethodName × Nat) := [(⟨"FreshSharesModel", "forget", "(I)I"⟩, 9), (⟨"FreshSharesModel", "having", "()I"⟩, 9), (⟨"FreshSharesModel", "open", "()I"⟩, 9), (⟨"FreshSharesModel", "honest", "(I)I"⟩, 9), (⟨"FreshSharesModel", "together", "(II)I"⟩, 9), (⟨"FreshSharesModel", "rebuild", "()I"⟩, 9), (⟨"FreshSharesModel", "steal", "(I)I"⟩, 9), (⟨"FreshSharesModel", "fresh", "()I"⟩, 9), (⟨"FreshSharesModel", "isStruck", "(I)Z"⟩, 9), (⟨"FreshSharesModel", "fitsPoly", "(II)Z"⟩, 9), (⟨"FreshSharesModel", "strike", "()V"⟩, 9), (⟨"FreshSharesModel", "move", "(I)I"⟩, 9), (⟨"FreshSharesModel", "takenFor", "(I)I"⟩, 9), (⟨"FreshSharesModel", "isEpoch", "(I)Z"⟩, 9), (⟨"FreshSharesModel", "isWorld", "(I)Z"⟩, 9), (⟨"FreshSharesModel", "lootOf", "(II)I"⟩, 9)]
theorem lw_r3 : ∀ q ∈ lw_privs_3, lw_okq q := List.forall_mem_cons.mpr ⟨lw_p32, List.forall_mem_cons.mpr ⟨lw_p33, List.forall_mem_cons.mpr ⟨lw_p34, List.forall_mem_cons.mpr ⟨lw_p35, List.forall_mem_cons.mpr ⟨lw_p36, List.forall_mem_cons.mpr ⟨lw_p37, List.forall_mem_cons.mpr ⟨lw_p38, List.forall_mem_cons.mpr ⟨lw_p39, List.forall_mem_cons.mpr ⟨lw_p40, List.forall_mem_cons.mpr ⟨lw_p41, List.forall_mem_cons.mpr ⟨lw_p42, List.forall_mem_cons.mpr ⟨lw_p43, List.forall_mem_cons.mpr ⟨lw_p44, List.forall_mem_cons.mpr ⟨lw_p45, List.forall_mem_cons.mpr ⟨lw_p46, List.forall_mem_cons.mpr ⟨lw_p47, fun _ h => absurd h List.not_mem_nil⟩⟩⟩⟩⟩⟩⟩⟩⟩⟩⟩⟩⟩⟩⟩⟩
theorem lw_p48 : lw_okq (⟨"FreshSharesModel", "robbed", "(I)I"⟩, 9) := ⟨⟨by decide +kernel, by decide +kernel⟩, List.mem_of_getElem? (i := 507) (by decide +kernel), List.mem_of_getElem? (i := 753) (by decide +kernel), List.mem_of_getElem? (i := 754) (by decide +kernel)⟩
theorem lw_p49 : lw_okq (⟨"FreshSharesModel", "lootFrom", "(II)I"⟩, 9) := ⟨⟨by decide +kernel, by decide +kernel⟩, List.mem_of_getElem? (i := 507) (by decide +kernel), List.mem_of_getElem? (i := 757) (by decide +kernel), List.mem_of_getElem? (i := 758) (by decide +kernel)⟩
theorem lw_p50 : lw_okq (⟨"FreshSharesModel", "opened", "(II)I"⟩, 9) := ⟨⟨by decide +kernel, by decide +kernel⟩, List.mem_of_getElem? (i := 507) (by decide +kernel), List.mem_of_getElem? (i := 761) (by decide +kernel), List.mem_of_getElem? (i := 762) (by decide +kernel)⟩
def lw_privs_4 : List (MethodName × Nat) := [(⟨"FreshSharesModel", "robbed", "(I)I"⟩, 9), (⟨"FreshSharesModel", "lootFrom", "(II)I"⟩, 9), (⟨"FreshSharesModel", "opened", "(II)I"⟩, 9)]
theorem lw_r4 : ∀ q ∈ lw_privs_4, lw_okq q := List.forall_mem_cons.mpr ⟨lw_p48, List.forall_mem_cons.mpr ⟨lw_p49, List.forall_mem_cons.mpr ⟨lw_p50, fun _ h => absurd h List.not_mem_nil⟩⟩⟩
def lw_privs : List (MethodName × Nat) := lw_privs_1 ++ (lw_privs_2 ++ (lw_privs_3 ++ (lw_privs_4)))
def lw_tbl : List Cond := k2_sels lw_privs ++ tables_1
theorem lw_privs_ok : ∀ q ∈ lw_privs, lw_okq q := by
  show ∀ q ∈ lw_privs_1 ++ (lw_privs_2 ++ (lw_privs_3 ++ (lw_privs_4))), lw_okq q
  exact List.forall_mem_append.mpr ⟨lw_r1, List.forall_mem_append.mpr ⟨lw_r2, List.forall_mem_append.mpr ⟨lw_r3, lw_r4⟩⟩⟩
end
section
/-! ===== BEGIN words of one list among another's, by their places ===== -/
theorem goodIn_r {big : List Cond} (ws : List Cond) (ps : List Nat) (hp : ws = ps.filterMap (fun i => big[i]?)) (h : ws.all goodWord = true) : GoodIn big ws := by
  intro w hw
  have h1 := List.all_eq_true.mp h w hw
  rw [hp] at hw
  obtain ⟨i, -, hi⟩ := List.mem_filterMap.mp hw
  have hm : w ∈ big := by first | exact List.mem_of_getElem? hi | exact List.getElem?_mem hi
  exact ⟨hm, good_of_word h1⟩
theorem goodIn_app {big a b : List Cond} (ha : GoodIn big a) (hb : GoodIn big b) : GoodIn big (a ++ b) := fun w h => (List.mem_append.mp h).elim (ha w) (hb w)
theorem goodIn_ca {big a b : List Cond} {c : Cond} (ha : GoodIn big (c :: a)) (hb : GoodIn big b) : GoodIn big (c :: (a ++ b)) := fun w h => (List.mem_cons.mp h).elim (fun e => ha w (List.mem_cons.mpr (Or.inl e))) (fun h => (List.mem_append.mp h).elim (fun h => ha w (List.mem_cons.mpr (Or.inr h))) (hb w))
theorem goodIn_sub {big ws : List Cond} (hm : ∀ w ∈ ws, w ∈ big) (h : ws.all goodWord = true) : GoodIn big ws := fun w hw => ⟨hm w hw, good_of_word (List.all_eq_true.mp h w hw)⟩
/-! ===== END ===== -/

/-! ===== BEGIN printed: names, fields, word lists, decode rows ===== -/
def RX0 : String := "FreshShares$Circle"
def TX0 : u_T := fun k => match k with
  | 0 => ("FreshShares$Circle", "rows", "[I", true)
  | 1 => ("FreshShares$Circle", "bends", "[I", true)
  | 2 => ("FreshShares$Circle", "shares", "[I", true)
  | 3 => ("FreshShares$Circle", "seals", "[I", true)
  | 4 => ("FreshShares$Circle", "thresholds", "[I", true)
  | 5 => ("FreshShares$Circle", "stolen", "LFreshShares$Loot;", true)
  | 6 => ("FreshShares$Circle", "holders", "I", false)
  | 7 => ("FreshShares$Circle", "threshold", "I", false)
  | 8 => ("FreshShares$Circle", "epoch", "I", false)
  | 9 => ("FreshShares$Circle", "liars", "I", false)
  | 10 => ("FreshShares$Circle", "struck", "I", false)
  | _ => ("FreshShares$Circle", "ordersDone", "I", false)
def tyX0 : Nat → FieldType := fun k => match k with
  | 0 => .array .int
  | 1 => .array .int
  | 2 => .array .int
  | 3 => .array .int
  | 4 => .array .int
  | 5 => .object "FreshShares$Loot"
  | 6 => .int
  | 7 => .int
  | 8 => .int
  | 9 => .int
  | 10 => .int
  | _ => .int
abbrev wsX00 : List Cond := u_ws RX0 TX0 12
theorem nmX0 : ∀ a, a < 12 → ∀ b, b < 12 → a ≠ b → (TX0 a).2.1 ≠ (TX0 b).2.1 := by decide +kernel
theorem tyX0_ok : ∀ k, k < 12 → parseFieldDescriptor (TX0 k).2.2.1 = some (tyX0 k) := by decide +kernel
abbrev cX0_init : ByteArray := prog_2_method_1_code
def yX0_init : MethodName := ⟨RX0, "<init>", "()V"⟩
abbrev cX0_copyFrom : ByteArray := prog_2_method_2_code
def yX0_copyFrom : MethodName := ⟨RX0, "copyFrom", "(LFreshShares$Circle;)V"⟩
abbrev cX0_isDealt : ByteArray := prog_2_method_3_code
def yX0_isDealt : MethodName := ⟨RX0, "isDealt", "()Z"⟩
abbrev cX0_isLastEpoch : ByteArray := prog_2_method_4_code
def yX0_isLastEpoch : MethodName := ⟨RX0, "isLastEpoch", "()Z"⟩
abbrev cX0_wasEpoch : ByteArray := prog_2_method_5_code
def yX0_wasEpoch : MethodName := ⟨RX0, "wasEpoch", "(I)Z"⟩
abbrev cX0_thresholdOf : ByteArray := prog_2_method_6_code
def yX0_thresholdOf : MethodName := ⟨RX0, "thresholdOf", "(I)I"⟩
abbrev cX0_beginEpoch : ByteArray := prog_2_method_7_code
def yX0_beginEpoch : MethodName := ⟨RX0, "beginEpoch", "(I)V"⟩
abbrev cX0_bend : ByteArray := prog_2_method_8_code
def yX0_bend : MethodName := ⟨RX0, "bend", "(II)I"⟩
abbrev cX0_tells : ByteArray := prog_2_method_9_code
def yX0_tells : MethodName := ⟨RX0, "tells", "(I)I"⟩
abbrev cX0_firstLostEpoch : ByteArray := prog_2_method_10_code
def yX0_firstLostEpoch : MethodName := ⟨RX0, "firstLostEpoch", "()I"⟩
def RX1 : String := "FreshShares$Loot"
def TX1 : u_T := fun k => match k with
  | 0 => ("FreshShares$Loot", "members", "[I", true)
  | 1 => ("FreshShares$Loot", "epochs", "[I", true)
  | 2 => ("FreshShares$Loot", "shares", "[I", true)
  | _ => ("FreshShares$Loot", "size", "I", false)
def tyX1 : Nat → FieldType := fun k => match k with
  | 0 => .array .int
  | 1 => .array .int
  | 2 => .array .int
  | _ => .int
abbrev wsX10 : List Cond := u_ws RX1 TX1 4
theorem nmX1 : ∀ a, a < 4 → ∀ b, b < 4 → a ≠ b → (TX1 a).2.1 ≠ (TX1 b).2.1 := by decide +kernel
theorem tyX1_ok : ∀ k, k < 4 → parseFieldDescriptor (TX1 k).2.2.1 = some (tyX1 k) := by decide +kernel
abbrev cX1_init : ByteArray := prog_3_method_1_code
def yX1_init : MethodName := ⟨RX1, "<init>", "()V"⟩
abbrev cX1_copyFrom : ByteArray := prog_3_method_2_code
def yX1_copyFrom : MethodName := ⟨RX1, "copyFrom", "(LFreshShares$Loot;)V"⟩
abbrev cX1_isFull : ByteArray := prog_3_method_3_code
def yX1_isFull : MethodName := ⟨RX1, "isFull", "()Z"⟩
abbrev cX1_add : ByteArray := prog_3_method_4_code
def yX1_add : MethodName := ⟨RX1, "add", "(III)V"⟩
abbrev cX1_victims : ByteArray := prog_3_method_5_code
def yX1_victims : MethodName := ⟨RX1, "victims", "(I)I"⟩
abbrev cX1_firstShare : ByteArray := prog_3_method_6_code
def yX1_firstShare : MethodName := ⟨RX1, "firstShare", "(II)I"⟩
def RX2 : String := "FreshShares$Orders"
def TX2 : u_T := fun k => match k with
  | 0 => ("FreshShares$Orders", "circle", "LFreshShares$Circle;", true)
  | 1 => ("FreshShares$Orders", "told", "[I", true)
  | 2 => ("FreshShares$Orders", "polynomials", "[I", true)
  | 3 => ("FreshShares$Orders", "sealsSent", "[I", true)
  | 4 => ("FreshShares$Orders", "factors", "[I", true)
  | _ => ("FreshShares$Orders", "taken", "I", false)
def tyX2 : Nat → FieldType := fun k => match k with
  | 0 => .object "FreshShares$Circle"
  | 1 => .array .int
  | 2 => .array .int
  | 3 => .array .int
  | 4 => .array .int
  | _ => .int
abbrev wsX20 : List Cond := u_ws RX2 TX2 6
theorem nmX2 : ∀ a, a < 6 → ∀ b, b < 6 → a ≠ b → (TX2 a).2.1 ≠ (TX2 b).2.1 := by decide +kernel
theorem tyX2_ok : ∀ k, k < 6 → parseFieldDescriptor (TX2 k).2.2.1 = some (tyX2 k) := by decide +kernel
abbrev cX2_init : ByteArray := prog_4_method_1_code
def yX2_init : MethodName := ⟨RX2, "<init>", "()V"⟩
abbrev cX2_perform : ByteArray := prog_4_method_2_code
def yX2_perform : MethodName := ⟨RX2, "perform", "(LFreshShares$Script;)I"⟩
abbrev cX2_isFull : ByteArray := prog_4_method_3_code
def yX2_isFull : MethodName := ⟨RX2, "isFull", "(I)Z"⟩
abbrev cX2_deal : ByteArray := prog_4_method_4_code
def yX2_deal : MethodName := ⟨RX2, "deal", "(I)I"⟩
abbrev cX2_lose : ByteArray := prog_4_method_5_code
def yX2_lose : MethodName := ⟨RX2, "lose", "(I)I"⟩
abbrev cX2_openedByThose : ByteArray := prog_4_method_6_code
def yX2_openedByThose : MethodName := ⟨RX2, "openedByThose", "(II)I"⟩
abbrev cX2_hear : ByteArray := prog_4_method_7_code
def yX2_hear : MethodName := ⟨RX2, "hear", "(I)Z"⟩
abbrev cX2_rebuild : ByteArray := prog_4_method_8_code
def yX2_rebuild : MethodName := ⟨RX2, "rebuild", "(II)I"⟩
abbrev cX2_steal : ByteArray := prog_4_method_9_code
def yX2_steal : MethodName := ⟨RX2, "steal", "(I)I"⟩
abbrev cX2_fresh : ByteArray := prog_4_method_10_code
def yX2_fresh : MethodName := ⟨RX2, "fresh", "()I"⟩
abbrev cX2_move : ByteArray := prog_4_method_11_code
def yX2_move : MethodName := ⟨RX2, "move", "(II)I"⟩
abbrev cX2_offer : ByteArray := prog_4_method_12_code
def yX2_offer : MethodName := ⟨RX2, "offer", "(III)V"⟩
abbrev cX2_sent : ByteArray := prog_4_method_13_code
def yX2_sent : MethodName := ⟨RX2, "sent", "(III)I"⟩
abbrev cX2_pourTaken : ByteArray := prog_4_method_14_code
def yX2_pourTaken : MethodName := ⟨RX2, "pourTaken", "(I)V"⟩
abbrev cX2_pour : ByteArray := prog_4_method_15_code
def yX2_pour : MethodName := ⟨RX2, "pour", "(II)V"⟩
abbrev cX2_closeEpoch : ByteArray := prog_4_method_16_code
def yX2_closeEpoch : MethodName := ⟨RX2, "closeEpoch", "(I)I"⟩
abbrev cX2_polynomialAt : ByteArray := prog_4_method_17_code
def yX2_polynomialAt : MethodName := ⟨RX2, "polynomialAt", "([IIII)I"⟩
abbrev cX2_opened : ByteArray := prog_4_method_18_code
def yX2_opened : MethodName := ⟨RX2, "opened", "(II)I"⟩
abbrev cX2_worldsLeft : ByteArray := prog_4_method_19_code
def yX2_worldsLeft : MethodName := ⟨RX2, "worldsLeft", "(II)I"⟩
def RX3 : String := "FreshShares$Script"
def TX3 : u_T := fun k => match k with
  | 0 => ("FreshShares$Script", "signs", "[I", true)
  | _ => ("FreshShares$Script", "length", "I", false)
def tyX3 : Nat → FieldType := fun k => match k with
  | 0 => .array .int
  | _ => .int
abbrev wsX30 : List Cond := u_ws RX3 TX3 2
theorem nmX3 : ∀ a, a < 2 → ∀ b, b < 2 → a ≠ b → (TX3 a).2.1 ≠ (TX3 b).2.1 := by decide +kernel
theorem tyX3_ok : ∀ k, k < 2 → parseFieldDescriptor (TX3 k).2.2.1 = some (tyX3 k) := by decide +kernel
abbrev cX3_init : ByteArray := prog_5_method_1_code
def yX3_init : MethodName := ⟨RX3, "<init>", "()V"⟩
abbrev cX3_append : ByteArray := prog_5_method_2_code
def yX3_append : MethodName := ⟨RX3, "append", "(I)Z"⟩
abbrev cX3_signAt : ByteArray := prog_5_method_3_code
def yX3_signAt : MethodName := ⟨RX3, "signAt", "(I)I"⟩
abbrev cX3_letter : ByteArray := prog_5_method_4_code
def yX3_letter : MethodName := ⟨RX3, "letter", "()I"⟩
abbrev cX3_figureAt : ByteArray := prog_5_method_5_code
def yX3_figureAt : MethodName := ⟨RX3, "figureAt", "(I)I"⟩
abbrev cX3_faultPlace : ByteArray := prog_5_method_6_code
def yX3_faultPlace : MethodName := ⟨RX3, "faultPlace", "()I"⟩
abbrev cX3_members : ByteArray := prog_5_method_7_code
def yX3_members : MethodName := ⟨RX3, "members", "()I"⟩
abbrev cX3_canStand : ByteArray := prog_5_method_8_code
def yX3_canStand : MethodName := ⟨RX3, "canStand", "(I)Z"⟩
abbrev cX3_firstOfSet : ByteArray := prog_5_method_9_code
def yX3_firstOfSet : MethodName := ⟨RX3, "firstOfSet", "()I"⟩
abbrev cX3_fewestSigns : ByteArray := prog_5_method_10_code
def yX3_fewestSigns : MethodName := ⟨RX3, "fewestSigns", "()I"⟩
abbrev cX3_isLetter : ByteArray := prog_5_method_11_code
def yX3_isLetter : MethodName := ⟨RX3, "isLetter", "(I)Z"⟩
def RX4 : String := "FreshShares$Sets"
def TX4 : u_T := fun k => match k with
  | _ => ("", "", "", false)
def tyX4 : Nat → FieldType := fun k => match k with
  | _ => .int
abbrev wsX40 : List Cond := u_ws RX4 TX4 0
theorem nmX4 : ∀ a, a < 0 → ∀ b, b < 0 → a ≠ b → (TX4 a).2.1 ≠ (TX4 b).2.1 := by decide +kernel
theorem tyX4_ok : ∀ k, k < 0 → parseFieldDescriptor (TX4 k).2.2.1 = some (tyX4 k) := by decide +kernel
abbrev cX4_only : ByteArray := prog_6_method_2_code
def yX4_only : MethodName := ⟨RX4, "only", "(I)I"⟩
abbrev cX4_has : ByteArray := prog_6_method_3_code
def yX4_has : MethodName := ⟨RX4, "has", "(II)Z"⟩
abbrev cX4_lowest : ByteArray := prog_6_method_4_code
def yX4_lowest : MethodName := ⟨RX4, "lowest", "(II)I"⟩
def RX5 : String := "FreshShares$Sums"
def TX5 : u_T := fun k => match k with
  | _ => ("", "", "", false)
def tyX5 : Nat → FieldType := fun k => match k with
  | _ => .int
abbrev wsX50 : List Cond := u_ws RX5 TX5 0
theorem nmX5 : ∀ a, a < 0 → ∀ b, b < 0 → a ≠ b → (TX5 a).2.1 ≠ (TX5 b).2.1 := by decide +kernel
theorem tyX5_ok : ∀ k, k < 0 → parseFieldDescriptor (TX5 k).2.2.1 = some (tyX5 k) := by decide +kernel
abbrev cX5_plus : ByteArray := prog_7_method_2_code
def yX5_plus : MethodName := ⟨RX5, "plus", "(II)I"⟩
abbrev cX5_times : ByteArray := prog_7_method_3_code
def yX5_times : MethodName := ⟨RX5, "times", "(II)I"⟩
abbrev cX5_less : ByteArray := prog_7_method_4_code
def yX5_less : MethodName := ⟨RX5, "less", "(II)I"⟩
abbrev cX5_inverse : ByteArray := prog_7_method_5_code
def yX5_inverse : MethodName := ⟨RX5, "inverse", "(I)I"⟩
abbrev cX5_joined : ByteArray := prog_7_method_6_code
def yX5_joined : MethodName := ⟨RX5, "joined", "(II)I"⟩
abbrev cX5_raised : ByteArray := prog_7_method_7_code
def yX5_raised : MethodName := ⟨RX5, "raised", "(II)I"⟩
abbrev cX5_sealOf : ByteArray := prog_7_method_8_code
def yX5_sealOf : MethodName := ⟨RX5, "sealOf", "(I)I"⟩
abbrev cX5_fitting : ByteArray := prog_7_method_9_code
def yX5_fitting : MethodName := ⟨RX5, "fitting", "(II[II)Z"⟩
abbrev cX5_weight : ByteArray := prog_7_method_10_code
def yX5_weight : MethodName := ⟨RX5, "weight", "(III)I"⟩
abbrev cX5_weighed : ByteArray := prog_7_method_11_code
def yX5_weighed : MethodName := ⟨RX5, "weighed", "([III)I"⟩
def RX6 : String := "FreshShares"
def TX6 : u_T := fun k => match k with
  | 0 => ("FreshShares", "script", "LFreshShares$Script;", true)
  | 1 => ("FreshShares", "orders", "LFreshShares$Orders;", true)
  | 2 => ("FreshShares", "circle", "LFreshShares$Circle;", true)
  | _ => ("FreshShares", "images", "[LFreshShares$Circle;", true)
def tyX6 : Nat → FieldType := fun k => match k with
  | 0 => .object "FreshShares$Script"
  | 1 => .object "FreshShares$Orders"
  | 2 => .object "FreshShares$Circle"
  | _ => .array (.object "FreshShares$Circle")
abbrev wsX60 : List Cond := u_ws RX6 TX6 4
theorem nmX6 : ∀ a, a < 4 → ∀ b, b < 4 → a ≠ b → (TX6 a).2.1 ≠ (TX6 b).2.1 := by decide +kernel
theorem tyX6_ok : ∀ k, k < 4 → parseFieldDescriptor (TX6 k).2.2.1 = some (tyX6 k) := by decide +kernel
abbrev cX6_init : ByteArray := prog_1_method_1_code
def yX6_init : MethodName := ⟨RX6, "<init>", "()V"⟩
abbrev cX6_row : ByteArray := prog_1_method_2_code
def yX6_row : MethodName := ⟨RX6, "row", "(III)I"⟩
abbrev cX6_bent : ByteArray := prog_1_method_3_code
def yX6_bent : MethodName := ⟨RX6, "bent", "(III)I"⟩
abbrev cX6_member : ByteArray := prog_1_method_4_code
def yX6_member : MethodName := ⟨RX6, "member", "(II)I"⟩
abbrev cX6_say : ByteArray := prog_1_method_5_code
def yX6_say : MethodName := ⟨RX6, "say", "(I)I"⟩
abbrev cX6_wipe : ByteArray := prog_1_method_6_code
def yX6_wipe : MethodName := ⟨RX6, "wipe", "()I"⟩
abbrev cX6_fault : ByteArray := prog_1_method_7_code
def yX6_fault : MethodName := ⟨RX6, "fault", "()I"⟩
abbrev cX6_act : ByteArray := prog_1_method_8_code
def yX6_act : MethodName := ⟨RX6, "act", "()I"⟩
abbrev cX6_named : ByteArray := prog_1_method_9_code
def yX6_named : MethodName := ⟨RX6, "named", "(I)I"⟩
abbrev cX6_fits : ByteArray := prog_1_method_10_code
def yX6_fits : MethodName := ⟨RX6, "fits", "(II)I"⟩
abbrev cX6_seal : ByteArray := prog_1_method_11_code
def yX6_seal : MethodName := ⟨RX6, "seal", "(I)I"⟩
abbrev cX6_weighs : ByteArray := prog_1_method_12_code
def yX6_weighs : MethodName := ⟨RX6, "weighs", "(III)I"⟩
abbrev cX6_loot : ByteArray := prog_1_method_13_code
def yX6_loot : MethodName := ⟨RX6, "loot", "(II)I"⟩
abbrev cX6_worlds : ByteArray := prog_1_method_14_code
def yX6_worlds : MethodName := ⟨RX6, "worlds", "(II)I"⟩
abbrev cX6_thief : ByteArray := prog_1_method_15_code
def yX6_thief : MethodName := ⟨RX6, "thief", "(I)I"⟩
abbrev cX6_image : ByteArray := prog_1_method_16_code
def yX6_image : MethodName := ⟨RX6, "image", "(I)I"⟩
abbrev cX6_restore : ByteArray := prog_1_method_17_code
def yX6_restore : MethodName := ⟨RX6, "restore", "(I)I"⟩
abbrev cX6_count : ByteArray := prog_1_method_18_code
def yX6_count : MethodName := ⟨RX6, "count", "(I)I"⟩
abbrev cX6_keptImages : ByteArray := prog_1_method_19_code
def yX6_keptImages : MethodName := ⟨RX6, "keptImages", "()I"⟩
abbrev cX6_shareFacts : ByteArray := prog_1_method_20_code
def yX6_shareFacts : MethodName := ⟨RX6, "shareFacts", "(II)I"⟩
abbrev cX6_isMember : ByteArray := prog_1_method_21_code
def yX6_isMember : MethodName := ⟨RX6, "isMember", "(I)Z"⟩
abbrev cX6_isValue : ByteArray := prog_1_method_22_code
def yX6_isValue : MethodName := ⟨RX6, "isValue", "(I)Z"⟩
abbrev cX6_highestBend : ByteArray := prog_1_method_23_code
def yX6_highestBend : MethodName := ⟨RX6, "highestBend", "(I)I"⟩
def RX7 : String := "FreshSharesModel"
def TX7 : u_T := fun k => match k with
  | 0 => ("FreshSharesModel", "state", "[I", true)
  | 1 => ("FreshSharesModel", "text", "[I", true)
  | 2 => ("FreshSharesModel", "signs", "I", false)
  | 3 => ("FreshSharesModel", "poly", "[I", true)
  | 4 => ("FreshSharesModel", "size", "I", false)
  | 5 => ("FreshSharesModel", "added", "[I", true)
  | 6 => ("FreshSharesModel", "sealed", "[I", true)
  | 7 => ("FreshSharesModel", "images", "[I", true)
  | _ => ("FreshSharesModel", "isKept", "[Z", true)
def tyX7 : Nat → FieldType := fun k => match k with
  | 0 => .array .int
  | 1 => .array .int
  | 2 => .int
  | 3 => .array .int
  | 4 => .int
  | 5 => .array .int
  | 6 => .array .int
  | 7 => .array .int
  | _ => .array .boolean
abbrev wsX70 : List Cond := u_ws RX7 TX7 9
theorem nmX7 : ∀ a, a < 9 → ∀ b, b < 9 → a ≠ b → (TX7 a).2.1 ≠ (TX7 b).2.1 := by decide +kernel
theorem tyX7_ok : ∀ k, k < 9 → parseFieldDescriptor (TX7 k).2.2.1 = some (tyX7 k) := by decide +kernel
abbrev cX7_init : ByteArray := prog_9_method_1_code
def yX7_init : MethodName := ⟨RX7, "<init>", "()V"⟩
abbrev cX7_in : ByteArray := prog_9_method_2_code
def yX7_in : MethodName := ⟨RX7, "in", "(III)Z"⟩
abbrev cX7_isMember : ByteArray := prog_9_method_3_code
def yX7_isMember : MethodName := ⟨RX7, "isMember", "(I)Z"⟩
abbrev cX7_isValue : ByteArray := prog_9_method_4_code
def yX7_isValue : MethodName := ⟨RX7, "isValue", "(I)Z"⟩
abbrev cX7_bentAt : ByteArray := prog_9_method_5_code
def yX7_bentAt : MethodName := ⟨RX7, "bentAt", "(II)I"⟩
abbrev cX7_bentOf : ByteArray := prog_9_method_6_code
def yX7_bentOf : MethodName := ⟨RX7, "bentOf", "(II)I"⟩
abbrev cX7_has : ByteArray := prog_9_method_7_code
def yX7_has : MethodName := ⟨RX7, "has", "(II)Z"⟩
abbrev cX7_isDealt : ByteArray := prog_9_method_8_code
def yX7_isDealt : MethodName := ⟨RX7, "isDealt", "()Z"⟩
abbrev cX7_mod : ByteArray := prog_9_method_9_code
def yX7_mod : MethodName := ⟨RX7, "mod", "(I)I"⟩
abbrev cX7_power : ByteArray := prog_9_method_10_code
def yX7_power : MethodName := ⟨RX7, "power", "(III)I"⟩
abbrev cX7_sealOf : ByteArray := prog_9_method_11_code
def yX7_sealOf : MethodName := ⟨RX7, "sealOf", "(I)I"⟩
abbrev cX7_row : ByteArray := prog_9_method_12_code
def yX7_row : MethodName := ⟨RX7, "row", "(III)I"⟩
abbrev cX7_bent : ByteArray := prog_9_method_13_code
def yX7_bent : MethodName := ⟨RX7, "bent", "(III)I"⟩
abbrev cX7_hasShare : ByteArray := prog_9_method_14_code
def yX7_hasShare : MethodName := ⟨RX7, "hasShare", "(I)Z"⟩
abbrev cX7_told : ByteArray := prog_9_method_15_code
def yX7_told : MethodName := ⟨RX7, "told", "(I)I"⟩
abbrev cX7_isFit : ByteArray := prog_9_method_16_code
def yX7_isFit : MethodName := ⟨RX7, "isFit", "(II)Z"⟩
abbrev cX7_member : ByteArray := prog_9_method_17_code
def yX7_member : MethodName := ⟨RX7, "member", "(II)I"⟩
abbrev cX7_say : ByteArray := prog_9_method_18_code
def yX7_say : MethodName := ⟨RX7, "say", "(I)I"⟩
abbrev cX7_wipe : ByteArray := prog_9_method_19_code
def yX7_wipe : MethodName := ⟨RX7, "wipe", "()I"⟩
abbrev cX7_figure : ByteArray := prog_9_method_20_code
def yX7_figure : MethodName := ⟨RX7, "figure", "(I)I"⟩
abbrev cX7_leastOf : ByteArray := prog_9_method_21_code
def yX7_leastOf : MethodName := ⟨RX7, "leastOf", "(I)I"⟩
abbrev cX7_canStand : ByteArray := prog_9_method_22_code
def yX7_canStand : MethodName := ⟨RX7, "canStand", "(I)Z"⟩
abbrev cX7_faultNow : ByteArray := prog_9_method_23_code
def yX7_faultNow : MethodName := ⟨RX7, "faultNow", "()I"⟩
abbrev cX7_fault : ByteArray := prog_9_method_24_code
def yX7_fault : MethodName := ⟨RX7, "fault", "()I"⟩
abbrev cX7_inverse : ByteArray := prog_9_method_25_code
def yX7_inverse : MethodName := ⟨RX7, "inverse", "(I)I"⟩
abbrev cX7_weight : ByteArray := prog_9_method_26_code
def yX7_weight : MethodName := ⟨RX7, "weight", "(III)I"⟩
abbrev cX7_weighs : ByteArray := prog_9_method_27_code
def yX7_weighs : MethodName := ⟨RX7, "weighs", "(III)I"⟩
abbrev cX7_polyAt : ByteArray := prog_9_method_28_code
def yX7_polyAt : MethodName := ⟨RX7, "polyAt", "(I)I"⟩
abbrev cX7_fitsPoly : ByteArray := prog_9_method_29_code
def yX7_fitsPoly : MethodName := ⟨RX7, "fitsPoly", "(II)Z"⟩
abbrev cX7_layPoly : ByteArray := prog_9_method_30_code
def yX7_layPoly : MethodName := ⟨RX7, "layPoly", "(III)V"⟩
abbrev cX7_having : ByteArray := prog_9_method_31_code
def yX7_having : MethodName := ⟨RX7, "having", "()I"⟩
abbrev cX7_bits : ByteArray := prog_9_method_32_code
def yX7_bits : MethodName := ⟨RX7, "bits", "(I)I"⟩
abbrev cX7_isStruck : ByteArray := prog_9_method_33_code
def yX7_isStruck : MethodName := ⟨RX7, "isStruck", "(I)Z"⟩
abbrev cX7_strike : ByteArray := prog_9_method_34_code
def yX7_strike : MethodName := ⟨RX7, "strike", "()V"⟩
abbrev cX7_nextEpoch : ByteArray := prog_9_method_35_code
def yX7_nextEpoch : MethodName := ⟨RX7, "nextEpoch", "()V"⟩
abbrev cX7_deal : ByteArray := prog_9_method_36_code
def yX7_deal : MethodName := ⟨RX7, "deal", "(I)I"⟩
abbrev cX7_forget : ByteArray := prog_9_method_37_code
def yX7_forget : MethodName := ⟨RX7, "forget", "(I)I"⟩
abbrev cX7_honest : ByteArray := prog_9_method_38_code
def yX7_honest : MethodName := ⟨RX7, "honest", "(I)I"⟩
abbrev cX7_firstOf : ByteArray := prog_9_method_39_code
def yX7_firstOf : MethodName := ⟨RX7, "firstOf", "(II)I"⟩
abbrev cX7_together : ByteArray := prog_9_method_40_code
def yX7_together : MethodName := ⟨RX7, "together", "(II)I"⟩
abbrev cX7_open : ByteArray := prog_9_method_41_code
def yX7_open : MethodName := ⟨RX7, "open", "()I"⟩
abbrev cX7_rebuild : ByteArray := prog_9_method_42_code
def yX7_rebuild : MethodName := ⟨RX7, "rebuild", "()I"⟩
abbrev cX7_steal : ByteArray := prog_9_method_43_code
def yX7_steal : MethodName := ⟨RX7, "steal", "(I)I"⟩
abbrev cX7_fresh : ByteArray := prog_9_method_44_code
def yX7_fresh : MethodName := ⟨RX7, "fresh", "()I"⟩
abbrev cX7_takenFor : ByteArray := prog_9_method_45_code
def yX7_takenFor : MethodName := ⟨RX7, "takenFor", "(I)I"⟩
abbrev cX7_move : ByteArray := prog_9_method_46_code
def yX7_move : MethodName := ⟨RX7, "move", "(I)I"⟩
abbrev cX7_done : ByteArray := prog_9_method_47_code
def yX7_done : MethodName := ⟨RX7, "done", "(I)I"⟩
abbrev cX7_act : ByteArray := prog_9_method_48_code
def yX7_act : MethodName := ⟨RX7, "act", "()I"⟩
abbrev cX7_named : ByteArray := prog_9_method_49_code
def yX7_named : MethodName := ⟨RX7, "named", "(I)I"⟩
abbrev cX7_fits : ByteArray := prog_9_method_50_code
def yX7_fits : MethodName := ⟨RX7, "fits", "(II)I"⟩
abbrev cX7_seal : ByteArray := prog_9_method_51_code
def yX7_seal : MethodName := ⟨RX7, "seal", "(I)I"⟩
abbrev cX7_loot : ByteArray := prog_9_method_52_code
def yX7_loot : MethodName := ⟨RX7, "loot", "(II)I"⟩
abbrev cX7_lootOf : ByteArray := prog_9_method_53_code
def yX7_lootOf : MethodName := ⟨RX7, "lootOf", "(II)I"⟩
abbrev cX7_isWorld : ByteArray := prog_9_method_54_code
def yX7_isWorld : MethodName := ⟨RX7, "isWorld", "(I)Z"⟩
abbrev cX7_isEpoch : ByteArray := prog_9_method_55_code
def yX7_isEpoch : MethodName := ⟨RX7, "isEpoch", "(I)Z"⟩
abbrev cX7_worlds : ByteArray := prog_9_method_56_code
def yX7_worlds : MethodName := ⟨RX7, "worlds", "(II)I"⟩
abbrev cX7_lootFrom : ByteArray := prog_9_method_57_code
def yX7_lootFrom : MethodName := ⟨RX7, "lootFrom", "(II)I"⟩
abbrev cX7_robbed : ByteArray := prog_9_method_58_code
def yX7_robbed : MethodName := ⟨RX7, "robbed", "(I)I"⟩
abbrev cX7_opened : ByteArray := prog_9_method_59_code
def yX7_opened : MethodName := ⟨RX7, "opened", "(II)I"⟩
abbrev cX7_thief : ByteArray := prog_9_method_60_code
def yX7_thief : MethodName := ⟨RX7, "thief", "(I)I"⟩
abbrev cX7_image : ByteArray := prog_9_method_61_code
def yX7_image : MethodName := ⟨RX7, "image", "(I)I"⟩
abbrev cX7_restore : ByteArray := prog_9_method_62_code
def yX7_restore : MethodName := ⟨RX7, "restore", "(I)I"⟩
abbrev cX7_count : ByteArray := prog_9_method_63_code
def yX7_count : MethodName := ⟨RX7, "count", "(I)I"⟩
def RJ6 : String := "java/lang/Integer"
def TJ6 : u_T := fun k => match k with
  | _ => ("", "", "", false)
def tyJ6 : Nat → FieldType := fun k => match k with
  | _ => .int
abbrev wsJ60 : List Cond := u_ws RJ6 TJ6 0
theorem nmJ6 : ∀ a, a < 0 → ∀ b, b < 0 → a ≠ b → (TJ6 a).2.1 ≠ (TJ6 b).2.1 := by decide +kernel
theorem tyJ6_ok : ∀ k, k < 0 → parseFieldDescriptor (TJ6 k).2.2.1 = some (tyJ6 k) := by decide +kernel
abbrev cJ6_bitCount_0f7a4 : ByteArray := prog_10_method_49_code
def yJ6_bitCount_0f7a4 : MethodName := ⟨RJ6, "bitCount", "(I)I"⟩
def RJ9 : String := "java/lang/Math"
def TJ9 : u_T := fun k => match k with
  | _ => ("", "", "", false)
def tyJ9 : Nat → FieldType := fun k => match k with
  | _ => .int
abbrev wsJ90 : List Cond := u_ws RJ9 TJ9 0
theorem nmJ9 : ∀ a, a < 0 → ∀ b, b < 0 → a ≠ b → (TJ9 a).2.1 ≠ (TJ9 b).2.1 := by decide +kernel
theorem tyJ9_ok : ∀ k, k < 0 → parseFieldDescriptor (TJ9 k).2.2.1 = some (tyJ9 k) := by decide +kernel
abbrev cJ9_min_7cf53 : ByteArray := prog_11_method_69_code
def yJ9_min_7cf53 : MethodName := ⟨RJ9, "min", "(II)I"⟩
def RJ10 : String := "java/lang/System"
def TJ10 : u_T := fun k => match k with
  | _ => ("", "", "", false)
def tyJ10 : Nat → FieldType := fun k => match k with
  | _ => .int
abbrev wsJ100 : List Cond := u_ws RJ10 TJ10 0
theorem nmJ10 : ∀ a, a < 0 → ∀ b, b < 0 → a ≠ b → (TJ10 a).2.1 ≠ (TJ10 b).2.1 := by decide +kernel
theorem tyJ10_ok : ∀ k, k < 0 → parseFieldDescriptor (TJ10 k).2.2.1 = some (tyJ10 k) := by decide +kernel
def RJ7 : String := "java/util/Arrays"
def TJ7 : u_T := fun k => match k with
  | _ => ("", "", "", false)
def tyJ7 : Nat → FieldType := fun k => match k with
  | _ => .int
abbrev wsJ70 : List Cond := u_ws RJ7 TJ7 0
theorem nmJ7 : ∀ a, a < 0 → ∀ b, b < 0 → a ≠ b → (TJ7 a).2.1 ≠ (TJ7 b).2.1 := by decide +kernel
theorem tyJ7_ok : ∀ k, k < 0 → parseFieldDescriptor (TJ7 k).2.2.1 = some (tyJ7 k) := by decide +kernel
abbrev cJ7_fill_53178 : ByteArray := prog_13_method_103_code
def yJ7_fill_53178 : MethodName := ⟨RJ7, "fill", "([II)V"⟩
def RL : String := "FreshSharesLaw"
abbrev cL_law : ByteArray := code
def yL_law : MethodName := ⟨RL, "law", "([I)Z"⟩
def wsX1_init : List Cond := .code yX1_init cX1_init 1 none :: ([.methodLink RX1 3 objectInit, .instanceMethod objectInit, .code objectInit ⟨#[0xb1]⟩ 1 none, .arrayClass .int, .fieldLink RX1 9 "FreshShares$Loot" "members" "[I", .fieldLink RX1 15 "FreshShares$Loot" "epochs" "[I", .fieldLink RX1 18 "FreshShares$Loot" "shares" "[I", .fieldLink RX1 21 "FreshShares$Loot" "size" "I"] ++ wsX10)
def wsX0_init_r1 : List Cond := [Cond.methodLink RX0 3 objectInit, Cond.instanceMethod objectInit, Cond.code objectInit ⟨#[0xb1]⟩ 1 none, Cond.arrayClass .int, Cond.fieldLink RX0 9 "FreshShares$Circle" "rows" "[I", Cond.fieldLink RX0 15 "FreshShares$Circle" "bends" "[I", Cond.fieldLink RX0 18 "FreshShares$Circle" "shares" "[I", Cond.fieldLink RX0 21 "FreshShares$Circle" "seals" "[I", Cond.fieldLink RX0 24 "FreshShares$Circle" "thresholds" "[I", Cond.classLink RX0 27 RX1, Cond.instantiable RX1 4, Cond.initialized RX1, Cond.fieldLink RX0 30 "FreshShares$Circle" "stolen" "LFreshShares$Loot;", Cond.fieldLink RX0 34 "FreshShares$Circle" "holders" "I", Cond.fieldLink RX0 38 "FreshShares$Circle" "threshold" "I", Cond.fieldLink RX0 41 "FreshShares$Circle" "epoch" "I", Cond.fieldLink RX0 44 "FreshShares$Circle" "liars" "I", Cond.fieldLink RX0 47 "FreshShares$Circle" "struck" "I", Cond.fieldLink RX0 50 "FreshShares$Circle" "ordersDone" "I", Cond.methodLink RX0 29 yX1_init, Cond.instanceMethod yX1_init, Cond.code yX1_init cX1_init 1 none, Cond.methodLink RX1 3 objectInit, Cond.fieldLink RX1 9 "FreshShares$Loot" "members" "[I"]
def wsX0_init_r2 : List Cond := [Cond.fieldLink RX1 15 "FreshShares$Loot" "epochs" "[I", Cond.fieldLink RX1 18 "FreshShares$Loot" "shares" "[I", Cond.fieldLink RX1 21 "FreshShares$Loot" "size" "I"]
def wsX0_init : List Cond := .code yX0_init cX0_init 2 none :: ((wsX0_init_r1 ++ wsX0_init_r2) ++ wsX00 ++ wsX10)
def wsX1_copyFrom : List Cond := .code yX1_copyFrom cX1_copyFrom 2 none :: ([.fieldLink RX1 9 "FreshShares$Loot" "members" "[I", .methodLink RX1 25 arraycopyName, .native arraycopyName, .static arraycopyName, .initialized "java/lang/System", .fieldLink RX1 15 "FreshShares$Loot" "epochs" "[I", .fieldLink RX1 18 "FreshShares$Loot" "shares" "[I", .fieldLink RX1 21 "FreshShares$Loot" "size" "I"] ++ wsX10)
def wsX0_copyFrom_r1 : List Cond := [Cond.fieldLink RX0 9 "FreshShares$Circle" "rows" "[I", Cond.methodLink RX0 53 arraycopyName, Cond.native arraycopyName, Cond.static arraycopyName, Cond.initialized "java/lang/System", Cond.fieldLink RX0 15 "FreshShares$Circle" "bends" "[I", Cond.fieldLink RX0 18 "FreshShares$Circle" "shares" "[I", Cond.fieldLink RX0 21 "FreshShares$Circle" "seals" "[I", Cond.fieldLink RX0 24 "FreshShares$Circle" "thresholds" "[I", Cond.fieldLink RX0 30 "FreshShares$Circle" "stolen" "LFreshShares$Loot;", Cond.fieldLink RX0 34 "FreshShares$Circle" "holders" "I", Cond.fieldLink RX0 38 "FreshShares$Circle" "threshold" "I", Cond.fieldLink RX0 41 "FreshShares$Circle" "epoch" "I", Cond.fieldLink RX0 44 "FreshShares$Circle" "liars" "I", Cond.fieldLink RX0 47 "FreshShares$Circle" "struck" "I", Cond.fieldLink RX0 50 "FreshShares$Circle" "ordersDone" "I", Cond.methodLink RX0 59 yX1_copyFrom, Cond.instanceMethod yX1_copyFrom, Cond.selects RX1 yX1_copyFrom yX1_copyFrom, Cond.initialized RX1, Cond.code yX1_copyFrom cX1_copyFrom 2 none, Cond.fieldLink RX1 9 "FreshShares$Loot" "members" "[I", Cond.methodLink RX1 25 arraycopyName, Cond.fieldLink RX1 15 "FreshShares$Loot" "epochs" "[I"]
def wsX0_copyFrom_r2 : List Cond := [Cond.fieldLink RX1 18 "FreshShares$Loot" "shares" "[I", Cond.fieldLink RX1 21 "FreshShares$Loot" "size" "I"]
def wsX0_copyFrom : List Cond := .code yX0_copyFrom cX0_copyFrom 2 none :: ((wsX0_copyFrom_r1 ++ wsX0_copyFrom_r2) ++ wsX00 ++ wsX10)
def wsX0_isDealt : List Cond := .code yX0_isDealt cX0_isDealt 1 (some .boolean) :: ([.fieldLink RX0 41 "FreshShares$Circle" "epoch" "I"] ++ wsX00)
def wsX0_isLastEpoch : List Cond := .code yX0_isLastEpoch cX0_isLastEpoch 1 (some .boolean) :: ([.fieldLink RX0 41 "FreshShares$Circle" "epoch" "I"] ++ wsX00)
def wsX0_wasEpoch : List Cond := .code yX0_wasEpoch cX0_wasEpoch 2 (some .boolean) :: ([.fieldLink RX0 41 "FreshShares$Circle" "epoch" "I"] ++ wsX00)
def wsX0_thresholdOf : List Cond := .code yX0_thresholdOf cX0_thresholdOf 2 (some .int) :: ([.fieldLink RX0 24 "FreshShares$Circle" "thresholds" "[I", .methodLink RX0 63 yX0_wasEpoch, .instanceMethod yX0_wasEpoch, .selects RX0 yX0_wasEpoch yX0_wasEpoch, .initialized RX0, .code yX0_wasEpoch cX0_wasEpoch 2 (some .boolean), .fieldLink RX0 41 "FreshShares$Circle" "epoch" "I"] ++ wsX00)
def wsX0_beginEpoch : List Cond := .code yX0_beginEpoch cX0_beginEpoch 2 none :: ([.fieldLink RX0 41 "FreshShares$Circle" "epoch" "I", .fieldLink RX0 38 "FreshShares$Circle" "threshold" "I", .fieldLink RX0 24 "FreshShares$Circle" "thresholds" "[I", .methodLink RX0 67 yX0_isLastEpoch, .instanceMethod yX0_isLastEpoch, .selects RX0 yX0_isLastEpoch yX0_isLastEpoch, .initialized RX0, .code yX0_isLastEpoch cX0_isLastEpoch 1 (some .boolean)] ++ wsX00)
def wsX0_bend : List Cond := .code yX0_bend cX0_bend 3 (some .int) :: ([.fieldLink RX0 15 "FreshShares$Circle" "bends" "[I"] ++ wsX00)
def wsX5_plus : List Cond := .code yX5_plus cX5_plus 2 (some .int) :: ([])
def wsX0_tells : List Cond := .code yX0_tells cX0_tells 2 (some .int) :: ([.fieldLink RX0 18 "FreshShares$Circle" "shares" "[I", .methodLink RX0 71 yX0_bend, .instanceMethod yX0_bend, .selects RX0 yX0_bend yX0_bend, .initialized RX0, .code yX0_bend cX0_bend 3 (some .int), .fieldLink RX0 15 "FreshShares$Circle" "bends" "[I", .methodLink RX0 75 yX5_plus, .static yX5_plus, .initialized RX5, .code yX5_plus cX5_plus 2 (some .int)] ++ wsX00)
def wsX4_only : List Cond := .code yX4_only cX4_only 1 (some .int) :: ([])
def wsX1_victims : List Cond := .code yX1_victims cX1_victims 4 (some .int) :: ([.fieldLink RX1 21 "FreshShares$Loot" "size" "I", .fieldLink RX1 15 "FreshShares$Loot" "epochs" "[I", .fieldLink RX1 9 "FreshShares$Loot" "members" "[I", .methodLink RX1 35 yX4_only, .static yX4_only, .initialized RX4, .code yX4_only cX4_only 1 (some .int)] ++ wsX10)
def wsJ6_bitCount_0f7a4 : List Cond := .code yJ6_bitCount_0f7a4 cJ6_bitCount_0f7a4 1 (some .int) :: ([.constant RJ6 265 (1431655765), .constant RJ6 266 (858993459), .constant RJ6 267 (252645135)])
def wsX0_firstLostEpoch_r1 : List Cond := [Cond.fieldLink RX0 30 "FreshShares$Circle" "stolen" "LFreshShares$Loot;", Cond.methodLink RX0 86 yX1_victims, Cond.instanceMethod yX1_victims, Cond.selects RX1 yX1_victims yX1_victims, Cond.initialized RX1, Cond.code yX1_victims cX1_victims 4 (some .int), Cond.fieldLink RX1 21 "FreshShares$Loot" "size" "I", Cond.fieldLink RX1 15 "FreshShares$Loot" "epochs" "[I", Cond.fieldLink RX1 9 "FreshShares$Loot" "members" "[I", Cond.methodLink RX1 35 yX4_only, Cond.static yX4_only, Cond.initialized RX4, Cond.code yX4_only cX4_only 1 (some .int), Cond.methodLink RX0 90 yJ6_bitCount_0f7a4, Cond.static yJ6_bitCount_0f7a4, Cond.initialized RJ6, Cond.code yJ6_bitCount_0f7a4 cJ6_bitCount_0f7a4 1 (some .int), Cond.constant RJ6 265 (1431655765), Cond.constant RJ6 266 (858993459), Cond.constant RJ6 267 (252645135), Cond.methodLink RX0 95 yX0_thresholdOf, Cond.instanceMethod yX0_thresholdOf, Cond.selects RX0 yX0_thresholdOf yX0_thresholdOf, Cond.initialized RX0]
def wsX0_firstLostEpoch_r2 : List Cond := [Cond.code yX0_thresholdOf cX0_thresholdOf 2 (some .int), Cond.fieldLink RX0 24 "FreshShares$Circle" "thresholds" "[I", Cond.methodLink RX0 63 yX0_wasEpoch, Cond.instanceMethod yX0_wasEpoch, Cond.selects RX0 yX0_wasEpoch yX0_wasEpoch, Cond.code yX0_wasEpoch cX0_wasEpoch 2 (some .boolean), Cond.fieldLink RX0 41 "FreshShares$Circle" "epoch" "I"]
def wsX0_firstLostEpoch : List Cond := .code yX0_firstLostEpoch cX0_firstLostEpoch 3 (some .int) :: ((wsX0_firstLostEpoch_r1 ++ wsX0_firstLostEpoch_r2) ++ wsX00 ++ wsX10)
def wsX1_isFull : List Cond := .code yX1_isFull cX1_isFull 1 (some .boolean) :: ([.fieldLink RX1 21 "FreshShares$Loot" "size" "I"] ++ wsX10)
def wsX1_add : List Cond := .code yX1_add cX1_add 4 none :: ([.fieldLink RX1 9 "FreshShares$Loot" "members" "[I", .fieldLink RX1 21 "FreshShares$Loot" "size" "I", .fieldLink RX1 15 "FreshShares$Loot" "epochs" "[I", .fieldLink RX1 18 "FreshShares$Loot" "shares" "[I", .methodLink RX1 31 yX1_isFull, .instanceMethod yX1_isFull, .selects RX1 yX1_isFull yX1_isFull, .initialized RX1, .code yX1_isFull cX1_isFull 1 (some .boolean)] ++ wsX10)
def wsX1_firstShare : List Cond := .code yX1_firstShare cX1_firstShare 4 (some .int) :: ([.fieldLink RX1 21 "FreshShares$Loot" "size" "I", .fieldLink RX1 9 "FreshShares$Loot" "members" "[I", .fieldLink RX1 15 "FreshShares$Loot" "epochs" "[I", .fieldLink RX1 18 "FreshShares$Loot" "shares" "[I"] ++ wsX10)
def wsX2_init_r1 : List Cond := [Cond.methodLink RX2 3 objectInit, Cond.instanceMethod objectInit, Cond.code objectInit ⟨#[0xb1]⟩ 1 none, Cond.classLink RX2 9 RX0, Cond.instantiable RX0 12, Cond.initialized RX0, Cond.fieldLink RX2 12 "FreshShares$Orders" "circle" "LFreshShares$Circle;", Cond.arrayClass .int, Cond.fieldLink RX2 18 "FreshShares$Orders" "told" "[I", Cond.fieldLink RX2 22 "FreshShares$Orders" "polynomials" "[I", Cond.fieldLink RX2 25 "FreshShares$Orders" "sealsSent" "[I", Cond.fieldLink RX2 28 "FreshShares$Orders" "factors" "[I", Cond.fieldLink RX2 31 "FreshShares$Orders" "taken" "I", Cond.methodLink RX2 11 yX0_init, Cond.instanceMethod yX0_init, Cond.code yX0_init cX0_init 2 none, Cond.methodLink RX0 3 objectInit, Cond.fieldLink RX0 9 "FreshShares$Circle" "rows" "[I", Cond.fieldLink RX0 15 "FreshShares$Circle" "bends" "[I", Cond.fieldLink RX0 18 "FreshShares$Circle" "shares" "[I", Cond.fieldLink RX0 21 "FreshShares$Circle" "seals" "[I", Cond.fieldLink RX0 24 "FreshShares$Circle" "thresholds" "[I", Cond.classLink RX0 27 RX1, Cond.instantiable RX1 4]
def wsX2_init_r2 : List Cond := [Cond.initialized RX1, Cond.fieldLink RX0 30 "FreshShares$Circle" "stolen" "LFreshShares$Loot;", Cond.fieldLink RX0 34 "FreshShares$Circle" "holders" "I", Cond.fieldLink RX0 38 "FreshShares$Circle" "threshold" "I", Cond.fieldLink RX0 41 "FreshShares$Circle" "epoch" "I", Cond.fieldLink RX0 44 "FreshShares$Circle" "liars" "I", Cond.fieldLink RX0 47 "FreshShares$Circle" "struck" "I", Cond.fieldLink RX0 50 "FreshShares$Circle" "ordersDone" "I", Cond.methodLink RX0 29 yX1_init, Cond.instanceMethod yX1_init, Cond.code yX1_init cX1_init 1 none, Cond.methodLink RX1 3 objectInit, Cond.fieldLink RX1 9 "FreshShares$Loot" "members" "[I", Cond.fieldLink RX1 15 "FreshShares$Loot" "epochs" "[I", Cond.fieldLink RX1 18 "FreshShares$Loot" "shares" "[I", Cond.fieldLink RX1 21 "FreshShares$Loot" "size" "I"]
def wsX2_init : List Cond := .code yX2_init cX2_init 1 none :: ((wsX2_init_r1 ++ wsX2_init_r2) ++ wsX00 ++ wsX20 ++ wsX10)
def wsX3_signAt : List Cond := .code yX3_signAt cX3_signAt 2 (some .int) :: ([.fieldLink RX3 15 "FreshShares$Script" "length" "I", .fieldLink RX3 9 "FreshShares$Script" "signs" "[I"] ++ wsX30)
def wsX3_letter : List Cond := .code yX3_letter cX3_letter 1 (some .int) :: ([.methodLink RX3 19 yX3_signAt, .instanceMethod yX3_signAt, .selects RX3 yX3_signAt yX3_signAt, .initialized RX3, .code yX3_signAt cX3_signAt 2 (some .int), .fieldLink RX3 15 "FreshShares$Script" "length" "I", .fieldLink RX3 9 "FreshShares$Script" "signs" "[I"] ++ wsX30)
def wsX2_isFull : List Cond := .code yX2_isFull cX2_isFull 2 (some .boolean) :: ([.fieldLink RX2 12 "FreshShares$Orders" "circle" "LFreshShares$Circle;", .methodLink RX2 84 yX0_isLastEpoch, .instanceMethod yX0_isLastEpoch, .selects RX0 yX0_isLastEpoch yX0_isLastEpoch, .initialized RX0, .code yX0_isLastEpoch cX0_isLastEpoch 1 (some .boolean), .fieldLink RX0 41 "FreshShares$Circle" "epoch" "I", .methodLink RX2 91 yX1_isFull, .instanceMethod yX1_isFull, .selects RX1 yX1_isFull yX1_isFull, .initialized RX1, .code yX1_isFull cX1_isFull 1 (some .boolean), .fieldLink RX1 21 "FreshShares$Loot" "size" "I"] ++ wsX20 ++ wsX00 ++ wsX10)
def wsX3_figureAt : List Cond := .code yX3_figureAt cX3_figureAt 2 (some .int) :: ([.methodLink RX3 19 yX3_signAt, .instanceMethod yX3_signAt, .selects RX3 yX3_signAt yX3_signAt, .initialized RX3, .code yX3_signAt cX3_signAt 2 (some .int), .fieldLink RX3 15 "FreshShares$Script" "length" "I", .fieldLink RX3 9 "FreshShares$Script" "signs" "[I"] ++ wsX30)
def wsX3_firstOfSet : List Cond := .code yX3_firstOfSet cX3_firstOfSet 1 (some .int) :: ([.methodLink RX3 45 yX3_letter, .instanceMethod yX3_letter, .selects RX3 yX3_letter yX3_letter, .initialized RX3, .code yX3_letter cX3_letter 1 (some .int), .methodLink RX3 19 yX3_signAt, .instanceMethod yX3_signAt, .selects RX3 yX3_signAt yX3_signAt, .code yX3_signAt cX3_signAt 2 (some .int), .fieldLink RX3 15 "FreshShares$Script" "length" "I", .fieldLink RX3 9 "FreshShares$Script" "signs" "[I"] ++ wsX30)
def wsX6_isMember : List Cond := .code yX6_isMember cX6_isMember 1 (some .boolean) :: ([])
def wsX3_members_r1 : List Cond := [Cond.fieldLink RX3 15 "FreshShares$Script" "length" "I", Cond.methodLink RX3 31 yX3_firstOfSet, Cond.instanceMethod yX3_firstOfSet, Cond.selects RX3 yX3_firstOfSet yX3_firstOfSet, Cond.initialized RX3, Cond.code yX3_firstOfSet cX3_firstOfSet 1 (some .int), Cond.methodLink RX3 45 yX3_letter, Cond.instanceMethod yX3_letter, Cond.selects RX3 yX3_letter yX3_letter, Cond.code yX3_letter cX3_letter 1 (some .int), Cond.methodLink RX3 19 yX3_signAt, Cond.instanceMethod yX3_signAt, Cond.selects RX3 yX3_signAt yX3_signAt, Cond.code yX3_signAt cX3_signAt 2 (some .int), Cond.fieldLink RX3 9 "FreshShares$Script" "signs" "[I", Cond.methodLink RX3 34 yX3_figureAt, Cond.instanceMethod yX3_figureAt, Cond.selects RX3 yX3_figureAt yX3_figureAt, Cond.code yX3_figureAt cX3_figureAt 2 (some .int), Cond.static yX6_isMember, Cond.initialized RX6, Cond.code yX6_isMember cX6_isMember 1 (some .boolean), Cond.methodLink RX3 40 yX4_only, Cond.static yX4_only]
def wsX3_members_r2 : List Cond := [Cond.initialized RX4, Cond.code yX4_only cX4_only 1 (some .int)]
def wsX3_members : List Cond := .code yX3_members cX3_members 3 (some .int) :: ((wsX3_members_r1 ++ wsX3_members_r2) ++ wsX30)
def wsX5_raised : List Cond := .code yX5_raised cX5_raised 4 (some .int) :: ([])
def wsX5_sealOf : List Cond := .code yX5_sealOf cX5_sealOf 1 (some .int) :: ([.methodLink RX5 9 yX5_raised, .static yX5_raised, .initialized RX5, .code yX5_raised cX5_raised 4 (some .int)])
def wsX5_times : List Cond := .code yX5_times cX5_times 2 (some .int) :: ([])
def wsX2_polynomialAt : List Cond := .code yX2_polynomialAt cX2_polynomialAt 8 (some .int) :: ([.methodLink RX2 208 Lib.Math.min.name, .static Lib.Math.min.name, .initialized "java/lang/Math", .code Lib.Math.min.name Lib.Math.min.code 2 (some .int), .methodLink RX2 199 yX5_times, .static yX5_times, .initialized RX5, .code yX5_times cX5_times 2 (some .int), .methodLink RX2 192 yX5_plus, .static yX5_plus, .code yX5_plus cX5_plus 2 (some .int)])
def wsX2_deal_r1 : List Cond := [Cond.fieldLink RX2 12 "FreshShares$Orders" "circle" "LFreshShares$Circle;", Cond.methodLink RX2 101 yX5_sealOf, Cond.static yX5_sealOf, Cond.initialized RX5, Cond.code yX5_sealOf cX5_sealOf 1 (some .int), Cond.methodLink RX5 9 yX5_raised, Cond.static yX5_raised, Cond.code yX5_raised cX5_raised 4 (some .int), Cond.methodLink RX2 109 yX2_polynomialAt, Cond.static yX2_polynomialAt, Cond.initialized RX2, Cond.code yX2_polynomialAt cX2_polynomialAt 8 (some .int), Cond.methodLink RX2 208 Lib.Math.min.name, Cond.static Lib.Math.min.name, Cond.initialized "java/lang/Math", Cond.code Lib.Math.min.name Lib.Math.min.code 2 (some .int), Cond.methodLink RX2 199 yX5_times, Cond.static yX5_times, Cond.code yX5_times cX5_times 2 (some .int), Cond.methodLink RX2 192 yX5_plus, Cond.static yX5_plus, Cond.code yX5_plus cX5_plus 2 (some .int), Cond.methodLink RX2 116 yX0_beginEpoch, Cond.instanceMethod yX0_beginEpoch]
def wsX2_deal_r2 : List Cond := [Cond.selects RX0 yX0_beginEpoch yX0_beginEpoch, Cond.initialized RX0, Cond.code yX0_beginEpoch cX0_beginEpoch 2 none, Cond.fieldLink RX0 41 "FreshShares$Circle" "epoch" "I", Cond.fieldLink RX0 38 "FreshShares$Circle" "threshold" "I", Cond.fieldLink RX0 24 "FreshShares$Circle" "thresholds" "[I", Cond.methodLink RX0 67 yX0_isLastEpoch, Cond.instanceMethod yX0_isLastEpoch, Cond.selects RX0 yX0_isLastEpoch yX0_isLastEpoch, Cond.code yX0_isLastEpoch cX0_isLastEpoch 1 (some .boolean)]
def wsX2_deal : List Cond := .code yX2_deal cX2_deal 3 (some .int) :: ((wsX2_deal_r1 ++ wsX2_deal_r2) ++ wsX20 ++ wsX00)
def wsX4_has : List Cond := .code yX4_has cX4_has 2 (some .boolean) :: ([])
def wsX2_sent : List Cond := .code yX2_sent cX2_sent 5 (some .int) :: ([.fieldLink RX2 12 "FreshShares$Orders" "circle" "LFreshShares$Circle;", .fieldLink RX2 22 "FreshShares$Orders" "polynomials" "[I", .methodLink RX2 189 yX0_bend, .instanceMethod yX0_bend, .selects RX0 yX0_bend yX0_bend, .initialized RX0, .code yX0_bend cX0_bend 3 (some .int), .fieldLink RX0 15 "FreshShares$Circle" "bends" "[I", .methodLink RX2 109 yX2_polynomialAt, .static yX2_polynomialAt, .initialized RX2, .code yX2_polynomialAt cX2_polynomialAt 8 (some .int), .methodLink RX2 208 Lib.Math.min.name, .static Lib.Math.min.name, .initialized "java/lang/Math", .code Lib.Math.min.name Lib.Math.min.code 2 (some .int), .methodLink RX2 199 yX5_times, .static yX5_times, .initialized RX5, .code yX5_times cX5_times 2 (some .int), .methodLink RX2 192 yX5_plus, .static yX5_plus, .code yX5_plus cX5_plus 2 (some .int)] ++ wsX20 ++ wsX00)
def wsX5_joined : List Cond := .code yX5_joined cX5_joined 2 (some .int) :: ([])
def wsX5_fitting : List Cond := .code yX5_fitting cX5_fitting 6 (some .boolean) :: ([.methodLink RX5 15 Lib.Math.min.name, .static Lib.Math.min.name, .initialized "java/lang/Math", .code Lib.Math.min.name Lib.Math.min.code 2 (some .int), .methodLink RX5 9 yX5_raised, .static yX5_raised, .initialized RX5, .code yX5_raised cX5_raised 4 (some .int), .methodLink RX5 20 yX5_joined, .static yX5_joined, .code yX5_joined cX5_joined 2 (some .int), .methodLink RX5 23 yX5_sealOf, .static yX5_sealOf, .code yX5_sealOf cX5_sealOf 1 (some .int)])
def wsX2_offer_r1 : List Cond := [Cond.fieldLink RX2 22 "FreshShares$Orders" "polynomials" "[I", Cond.fieldLink RX2 12 "FreshShares$Orders" "circle" "LFreshShares$Circle;", Cond.fieldLink RX2 25 "FreshShares$Orders" "sealsSent" "[I", Cond.fieldLink RX2 31 "FreshShares$Orders" "taken" "I", Cond.methodLink RX2 101 yX5_sealOf, Cond.static yX5_sealOf, Cond.initialized RX5, Cond.code yX5_sealOf cX5_sealOf 1 (some .int), Cond.methodLink RX5 9 yX5_raised, Cond.static yX5_raised, Cond.code yX5_raised cX5_raised 4 (some .int), Cond.methodLink RX2 130 yX4_has, Cond.static yX4_has, Cond.initialized RX4, Cond.code yX4_has cX4_has 2 (some .boolean), Cond.methodLink RX2 186 yX2_sent, Cond.instanceMethod yX2_sent, Cond.selects RX2 yX2_sent yX2_sent, Cond.initialized RX2, Cond.code yX2_sent cX2_sent 5 (some .int), Cond.methodLink RX2 189 yX0_bend, Cond.instanceMethod yX0_bend, Cond.selects RX0 yX0_bend yX0_bend, Cond.initialized RX0]
def wsX2_offer_r2 : List Cond := [Cond.code yX0_bend cX0_bend 3 (some .int), Cond.fieldLink RX0 15 "FreshShares$Circle" "bends" "[I", Cond.methodLink RX2 109 yX2_polynomialAt, Cond.static yX2_polynomialAt, Cond.code yX2_polynomialAt cX2_polynomialAt 8 (some .int), Cond.methodLink RX2 208 Lib.Math.min.name, Cond.static Lib.Math.min.name, Cond.initialized "java/lang/Math", Cond.code Lib.Math.min.name Lib.Math.min.code 2 (some .int), Cond.methodLink RX2 199 yX5_times, Cond.static yX5_times, Cond.code yX5_times cX5_times 2 (some .int), Cond.methodLink RX2 192 yX5_plus, Cond.static yX5_plus, Cond.code yX5_plus cX5_plus 2 (some .int), Cond.methodLink RX2 150 yX5_fitting, Cond.static yX5_fitting, Cond.code yX5_fitting cX5_fitting 6 (some .boolean), Cond.methodLink RX5 15 Lib.Math.min.name, Cond.methodLink RX5 20 yX5_joined, Cond.static yX5_joined, Cond.code yX5_joined cX5_joined 2 (some .int), Cond.methodLink RX5 23 yX5_sealOf, Cond.methodLink RX2 120 yX4_only]
def wsX2_offer_r3 : List Cond := [Cond.static yX4_only, Cond.code yX4_only cX4_only 1 (some .int)]
def wsX2_offer : List Cond := .code yX2_offer cX2_offer 9 none :: ((wsX2_offer_r1 ++ (wsX2_offer_r2 ++ wsX2_offer_r3)) ++ wsX20 ++ wsX00)
def wsX2_pour_r1 : List Cond := [Cond.fieldLink RX2 12 "FreshShares$Orders" "circle" "LFreshShares$Circle;", Cond.fieldLink RX2 28 "FreshShares$Orders" "factors" "[I", Cond.fieldLink RX2 22 "FreshShares$Orders" "polynomials" "[I", Cond.methodLink RX2 130 yX4_has, Cond.static yX4_has, Cond.initialized RX4, Cond.code yX4_has cX4_has 2 (some .boolean), Cond.methodLink RX2 109 yX2_polynomialAt, Cond.static yX2_polynomialAt, Cond.initialized RX2, Cond.code yX2_polynomialAt cX2_polynomialAt 8 (some .int), Cond.methodLink RX2 208 Lib.Math.min.name, Cond.static Lib.Math.min.name, Cond.initialized "java/lang/Math", Cond.code Lib.Math.min.name Lib.Math.min.code 2 (some .int), Cond.methodLink RX2 199 yX5_times, Cond.static yX5_times, Cond.initialized RX5, Cond.code yX5_times cX5_times 2 (some .int), Cond.methodLink RX2 192 yX5_plus, Cond.static yX5_plus, Cond.code yX5_plus cX5_plus 2 (some .int), Cond.methodLink RX2 101 yX5_sealOf, Cond.static yX5_sealOf]
def wsX2_pour_r2 : List Cond := [Cond.code yX5_sealOf cX5_sealOf 1 (some .int), Cond.methodLink RX5 9 yX5_raised, Cond.static yX5_raised, Cond.code yX5_raised cX5_raised 4 (some .int), Cond.methodLink RX2 202 yX5_raised, Cond.methodLink RX2 205 yX5_joined, Cond.static yX5_joined, Cond.code yX5_joined cX5_joined 2 (some .int)]
def wsX2_pour : List Cond := .code yX2_pour cX2_pour 5 none :: ((wsX2_pour_r1 ++ wsX2_pour_r2) ++ wsX20 ++ wsX00)
def wsX2_pourTaken_r1 : List Cond := [Cond.fieldLink RX2 31 "FreshShares$Orders" "taken" "I", Cond.methodLink RX2 130 yX4_has, Cond.static yX4_has, Cond.initialized RX4, Cond.code yX4_has cX4_has 2 (some .boolean), Cond.methodLink RX2 195 yX2_pour, Cond.instanceMethod yX2_pour, Cond.selects RX2 yX2_pour yX2_pour, Cond.initialized RX2, Cond.code yX2_pour cX2_pour 5 none, Cond.fieldLink RX2 12 "FreshShares$Orders" "circle" "LFreshShares$Circle;", Cond.fieldLink RX2 28 "FreshShares$Orders" "factors" "[I", Cond.fieldLink RX2 22 "FreshShares$Orders" "polynomials" "[I", Cond.methodLink RX2 109 yX2_polynomialAt, Cond.static yX2_polynomialAt, Cond.code yX2_polynomialAt cX2_polynomialAt 8 (some .int), Cond.methodLink RX2 208 Lib.Math.min.name, Cond.static Lib.Math.min.name, Cond.initialized "java/lang/Math", Cond.code Lib.Math.min.name Lib.Math.min.code 2 (some .int), Cond.methodLink RX2 199 yX5_times, Cond.static yX5_times, Cond.initialized RX5, Cond.code yX5_times cX5_times 2 (some .int)]
def wsX2_pourTaken_r2 : List Cond := [Cond.methodLink RX2 192 yX5_plus, Cond.static yX5_plus, Cond.code yX5_plus cX5_plus 2 (some .int), Cond.methodLink RX2 101 yX5_sealOf, Cond.static yX5_sealOf, Cond.code yX5_sealOf cX5_sealOf 1 (some .int), Cond.methodLink RX5 9 yX5_raised, Cond.static yX5_raised, Cond.code yX5_raised cX5_raised 4 (some .int), Cond.methodLink RX2 202 yX5_raised, Cond.methodLink RX2 205 yX5_joined, Cond.static yX5_joined, Cond.code yX5_joined cX5_joined 2 (some .int)]
def wsX2_pourTaken : List Cond := .code yX2_pourTaken cX2_pourTaken 3 none :: ((wsX2_pourTaken_r1 ++ wsX2_pourTaken_r2) ++ wsX20 ++ wsX00)
def wsX2_closeEpoch : List Cond := .code yX2_closeEpoch cX2_closeEpoch 2 (some .int) :: ([.fieldLink RX2 12 "FreshShares$Orders" "circle" "LFreshShares$Circle;", .methodLink RX2 116 yX0_beginEpoch, .instanceMethod yX0_beginEpoch, .selects RX0 yX0_beginEpoch yX0_beginEpoch, .initialized RX0, .code yX0_beginEpoch cX0_beginEpoch 2 none, .fieldLink RX0 41 "FreshShares$Circle" "epoch" "I", .fieldLink RX0 38 "FreshShares$Circle" "threshold" "I", .fieldLink RX0 24 "FreshShares$Circle" "thresholds" "[I", .methodLink RX0 67 yX0_isLastEpoch, .instanceMethod yX0_isLastEpoch, .selects RX0 yX0_isLastEpoch yX0_isLastEpoch, .code yX0_isLastEpoch cX0_isLastEpoch 1 (some .boolean), .methodLink RX2 125 yJ6_bitCount_0f7a4, .static yJ6_bitCount_0f7a4, .initialized RJ6, .code yJ6_bitCount_0f7a4 cJ6_bitCount_0f7a4 1 (some .int), .constant RJ6 265 (1431655765), .constant RJ6 266 (858993459), .constant RJ6 267 (252645135)] ++ wsX20 ++ wsX00)
def wsX2_fresh_r1 : List Cond := [Cond.fieldLink RX2 12 "FreshShares$Orders" "circle" "LFreshShares$Circle;", Cond.fieldLink RX2 31 "FreshShares$Orders" "taken" "I", Cond.fieldLink RX2 28 "FreshShares$Orders" "factors" "[I", Cond.methodLink RX2 130 yX4_has, Cond.static yX4_has, Cond.initialized RX4, Cond.code yX4_has cX4_has 2 (some .boolean), Cond.methodLink RX2 167 yX2_offer, Cond.instanceMethod yX2_offer, Cond.selects RX2 yX2_offer yX2_offer, Cond.initialized RX2, Cond.code yX2_offer cX2_offer 9 none, Cond.fieldLink RX2 22 "FreshShares$Orders" "polynomials" "[I", Cond.fieldLink RX2 25 "FreshShares$Orders" "sealsSent" "[I", Cond.methodLink RX2 101 yX5_sealOf, Cond.static yX5_sealOf, Cond.initialized RX5, Cond.code yX5_sealOf cX5_sealOf 1 (some .int), Cond.methodLink RX5 9 yX5_raised, Cond.static yX5_raised, Cond.code yX5_raised cX5_raised 4 (some .int), Cond.methodLink RX2 186 yX2_sent, Cond.instanceMethod yX2_sent, Cond.selects RX2 yX2_sent yX2_sent]
def wsX2_fresh_r2 : List Cond := [Cond.code yX2_sent cX2_sent 5 (some .int), Cond.methodLink RX2 189 yX0_bend, Cond.instanceMethod yX0_bend, Cond.selects RX0 yX0_bend yX0_bend, Cond.initialized RX0, Cond.code yX0_bend cX0_bend 3 (some .int), Cond.fieldLink RX0 15 "FreshShares$Circle" "bends" "[I", Cond.methodLink RX2 109 yX2_polynomialAt, Cond.static yX2_polynomialAt, Cond.code yX2_polynomialAt cX2_polynomialAt 8 (some .int), Cond.methodLink RX2 208 Lib.Math.min.name, Cond.static Lib.Math.min.name, Cond.initialized "java/lang/Math", Cond.code Lib.Math.min.name Lib.Math.min.code 2 (some .int), Cond.methodLink RX2 199 yX5_times, Cond.static yX5_times, Cond.code yX5_times cX5_times 2 (some .int), Cond.methodLink RX2 192 yX5_plus, Cond.static yX5_plus, Cond.code yX5_plus cX5_plus 2 (some .int), Cond.methodLink RX2 150 yX5_fitting, Cond.static yX5_fitting, Cond.code yX5_fitting cX5_fitting 6 (some .boolean), Cond.methodLink RX5 15 Lib.Math.min.name]
def wsX2_fresh_r3 : List Cond := [Cond.methodLink RX5 20 yX5_joined, Cond.static yX5_joined, Cond.code yX5_joined cX5_joined 2 (some .int), Cond.methodLink RX5 23 yX5_sealOf, Cond.methodLink RX2 120 yX4_only, Cond.static yX4_only, Cond.code yX4_only cX4_only 1 (some .int), Cond.methodLink RX2 170 yX2_pourTaken, Cond.instanceMethod yX2_pourTaken, Cond.selects RX2 yX2_pourTaken yX2_pourTaken, Cond.code yX2_pourTaken cX2_pourTaken 3 none, Cond.methodLink RX2 195 yX2_pour, Cond.instanceMethod yX2_pour, Cond.selects RX2 yX2_pour yX2_pour, Cond.code yX2_pour cX2_pour 5 none, Cond.methodLink RX2 202 yX5_raised, Cond.methodLink RX2 205 yX5_joined, Cond.methodLink RX2 173 yX2_closeEpoch, Cond.instanceMethod yX2_closeEpoch, Cond.selects RX2 yX2_closeEpoch yX2_closeEpoch, Cond.code yX2_closeEpoch cX2_closeEpoch 2 (some .int), Cond.methodLink RX2 116 yX0_beginEpoch, Cond.instanceMethod yX0_beginEpoch, Cond.selects RX0 yX0_beginEpoch yX0_beginEpoch]
def wsX2_fresh_r4 : List Cond := [Cond.code yX0_beginEpoch cX0_beginEpoch 2 none, Cond.fieldLink RX0 41 "FreshShares$Circle" "epoch" "I", Cond.fieldLink RX0 38 "FreshShares$Circle" "threshold" "I", Cond.fieldLink RX0 24 "FreshShares$Circle" "thresholds" "[I", Cond.methodLink RX0 67 yX0_isLastEpoch, Cond.instanceMethod yX0_isLastEpoch, Cond.selects RX0 yX0_isLastEpoch yX0_isLastEpoch, Cond.code yX0_isLastEpoch cX0_isLastEpoch 1 (some .boolean), Cond.methodLink RX2 125 yJ6_bitCount_0f7a4, Cond.static yJ6_bitCount_0f7a4, Cond.initialized RJ6, Cond.code yJ6_bitCount_0f7a4 cJ6_bitCount_0f7a4 1 (some .int), Cond.constant RJ6 265 (1431655765), Cond.constant RJ6 266 (858993459), Cond.constant RJ6 267 (252645135)]
def wsX2_fresh : List Cond := .code yX2_fresh cX2_fresh 3 (some .int) :: ((wsX2_fresh_r1 ++ (wsX2_fresh_r2 ++ (wsX2_fresh_r3 ++ wsX2_fresh_r4))) ++ wsX20 ++ wsX00)
def wsX2_hear_r1 : List Cond := [Cond.fieldLink RX2 18 "FreshShares$Orders" "told" "[I", Cond.fieldLink RX2 12 "FreshShares$Orders" "circle" "LFreshShares$Circle;", Cond.methodLink RX2 147 yX0_tells, Cond.instanceMethod yX0_tells, Cond.selects RX0 yX0_tells yX0_tells, Cond.initialized RX0, Cond.code yX0_tells cX0_tells 2 (some .int), Cond.fieldLink RX0 18 "FreshShares$Circle" "shares" "[I", Cond.methodLink RX0 71 yX0_bend, Cond.instanceMethod yX0_bend, Cond.selects RX0 yX0_bend yX0_bend, Cond.code yX0_bend cX0_bend 3 (some .int), Cond.fieldLink RX0 15 "FreshShares$Circle" "bends" "[I", Cond.methodLink RX0 75 yX5_plus, Cond.static yX5_plus, Cond.initialized RX5, Cond.code yX5_plus cX5_plus 2 (some .int), Cond.methodLink RX2 150 yX5_fitting, Cond.static yX5_fitting, Cond.code yX5_fitting cX5_fitting 6 (some .boolean), Cond.methodLink RX5 15 Lib.Math.min.name, Cond.static Lib.Math.min.name, Cond.initialized "java/lang/Math", Cond.code Lib.Math.min.name Lib.Math.min.code 2 (some .int)]
def wsX2_hear_r2 : List Cond := [Cond.methodLink RX5 9 yX5_raised, Cond.static yX5_raised, Cond.code yX5_raised cX5_raised 4 (some .int), Cond.methodLink RX5 20 yX5_joined, Cond.static yX5_joined, Cond.code yX5_joined cX5_joined 2 (some .int), Cond.methodLink RX5 23 yX5_sealOf, Cond.static yX5_sealOf, Cond.code yX5_sealOf cX5_sealOf 1 (some .int), Cond.methodLink RX2 120 yX4_only, Cond.static yX4_only, Cond.initialized RX4, Cond.code yX4_only cX4_only 1 (some .int)]
def wsX2_hear : List Cond := .code yX2_hear cX2_hear 2 (some .boolean) :: ((wsX2_hear_r1 ++ wsX2_hear_r2) ++ wsX20 ++ wsX00)
def wsX4_lowest : List Cond := .code yX4_lowest cX4_lowest 5 (some .int) :: ([.methodLink RX4 9 yX4_has, .static yX4_has, .initialized RX4, .code yX4_has cX4_has 2 (some .boolean), .methodLink RX4 15 yX4_only, .static yX4_only, .code yX4_only cX4_only 1 (some .int)])
def wsX5_less : List Cond := .code yX5_less cX5_less 2 (some .int) :: ([])
def wsX5_inverse : List Cond := .code yX5_inverse cX5_inverse 3 (some .int) :: ([])
def wsX5_weight : List Cond := .code yX5_weight cX5_weight 6 (some .int) :: ([.methodLink RX5 27 yX4_has, .static yX4_has, .initialized RX4, .code yX4_has cX4_has 2 (some .boolean), .methodLink RX5 33 yX5_less, .static yX5_less, .initialized RX5, .code yX5_less cX5_less 2 (some .int), .methodLink RX5 36 yX5_times, .static yX5_times, .code yX5_times cX5_times 2 (some .int), .methodLink RX5 39 yX5_inverse, .static yX5_inverse, .code yX5_inverse cX5_inverse 3 (some .int)])
def wsX5_weighed : List Cond := .code yX5_weighed cX5_weighed 5 (some .int) :: ([.methodLink RX5 27 yX4_has, .static yX4_has, .initialized RX4, .code yX4_has cX4_has 2 (some .boolean), .methodLink RX5 42 yX5_weight, .static yX5_weight, .initialized RX5, .code yX5_weight cX5_weight 6 (some .int), .methodLink RX5 33 yX5_less, .static yX5_less, .code yX5_less cX5_less 2 (some .int), .methodLink RX5 36 yX5_times, .static yX5_times, .code yX5_times cX5_times 2 (some .int), .methodLink RX5 39 yX5_inverse, .static yX5_inverse, .code yX5_inverse cX5_inverse 3 (some .int), .methodLink RX5 46 yX5_plus, .static yX5_plus, .code yX5_plus cX5_plus 2 (some .int)])
def wsX2_openedByThose_r1 : List Cond := [Cond.fieldLink RX2 12 "FreshShares$Orders" "circle" "LFreshShares$Circle;", Cond.fieldLink RX2 18 "FreshShares$Orders" "told" "[I", Cond.methodLink RX2 130 yX4_has, Cond.static yX4_has, Cond.initialized RX4, Cond.code yX4_has cX4_has 2 (some .boolean), Cond.methodLink RX2 134 yX2_hear, Cond.instanceMethod yX2_hear, Cond.selects RX2 yX2_hear yX2_hear, Cond.initialized RX2, Cond.code yX2_hear cX2_hear 2 (some .boolean), Cond.methodLink RX2 147 yX0_tells, Cond.instanceMethod yX0_tells, Cond.selects RX0 yX0_tells yX0_tells, Cond.initialized RX0, Cond.code yX0_tells cX0_tells 2 (some .int), Cond.fieldLink RX0 18 "FreshShares$Circle" "shares" "[I", Cond.methodLink RX0 71 yX0_bend, Cond.instanceMethod yX0_bend, Cond.selects RX0 yX0_bend yX0_bend, Cond.code yX0_bend cX0_bend 3 (some .int), Cond.fieldLink RX0 15 "FreshShares$Circle" "bends" "[I", Cond.methodLink RX0 75 yX5_plus, Cond.static yX5_plus]
def wsX2_openedByThose_r2 : List Cond := [Cond.initialized RX5, Cond.code yX5_plus cX5_plus 2 (some .int), Cond.methodLink RX2 150 yX5_fitting, Cond.static yX5_fitting, Cond.code yX5_fitting cX5_fitting 6 (some .boolean), Cond.methodLink RX5 15 Lib.Math.min.name, Cond.static Lib.Math.min.name, Cond.initialized "java/lang/Math", Cond.code Lib.Math.min.name Lib.Math.min.code 2 (some .int), Cond.methodLink RX5 9 yX5_raised, Cond.static yX5_raised, Cond.code yX5_raised cX5_raised 4 (some .int), Cond.methodLink RX5 20 yX5_joined, Cond.static yX5_joined, Cond.code yX5_joined cX5_joined 2 (some .int), Cond.methodLink RX5 23 yX5_sealOf, Cond.static yX5_sealOf, Cond.code yX5_sealOf cX5_sealOf 1 (some .int), Cond.methodLink RX2 120 yX4_only, Cond.static yX4_only, Cond.code yX4_only cX4_only 1 (some .int), Cond.methodLink RX2 125 yJ6_bitCount_0f7a4, Cond.static yJ6_bitCount_0f7a4, Cond.initialized RJ6]
def wsX2_openedByThose_r3 : List Cond := [Cond.code yJ6_bitCount_0f7a4 cJ6_bitCount_0f7a4 1 (some .int), Cond.constant RJ6 265 (1431655765), Cond.constant RJ6 266 (858993459), Cond.constant RJ6 267 (252645135), Cond.methodLink RX2 140 yX4_lowest, Cond.static yX4_lowest, Cond.code yX4_lowest cX4_lowest 5 (some .int), Cond.methodLink RX4 9 yX4_has, Cond.methodLink RX4 15 yX4_only, Cond.methodLink RX2 143 yX5_weighed, Cond.static yX5_weighed, Cond.code yX5_weighed cX5_weighed 5 (some .int), Cond.methodLink RX5 27 yX4_has, Cond.methodLink RX5 42 yX5_weight, Cond.static yX5_weight, Cond.code yX5_weight cX5_weight 6 (some .int), Cond.methodLink RX5 33 yX5_less, Cond.static yX5_less, Cond.code yX5_less cX5_less 2 (some .int), Cond.methodLink RX5 36 yX5_times, Cond.static yX5_times, Cond.code yX5_times cX5_times 2 (some .int), Cond.methodLink RX5 39 yX5_inverse, Cond.static yX5_inverse]
def wsX2_openedByThose_r4 : List Cond := [Cond.code yX5_inverse cX5_inverse 3 (some .int), Cond.methodLink RX5 46 yX5_plus]
def wsX2_openedByThose : List Cond := .code yX2_openedByThose cX2_openedByThose 5 (some .int) :: ((wsX2_openedByThose_r1 ++ (wsX2_openedByThose_r2 ++ (wsX2_openedByThose_r3 ++ wsX2_openedByThose_r4))) ++ wsX20 ++ wsX00)
def wsX2_lose : List Cond := .code yX2_lose cX2_lose 2 (some .int) :: ([.fieldLink RX2 12 "FreshShares$Orders" "circle" "LFreshShares$Circle;", .methodLink RX2 120 yX4_only, .static yX4_only, .initialized RX4, .code yX4_only cX4_only 1 (some .int), .methodLink RX2 125 yJ6_bitCount_0f7a4, .static yJ6_bitCount_0f7a4, .initialized RJ6, .code yJ6_bitCount_0f7a4 cJ6_bitCount_0f7a4 1 (some .int), .constant RJ6 265 (1431655765), .constant RJ6 266 (858993459), .constant RJ6 267 (252645135)] ++ wsX20 ++ wsX00)
def wsX2_rebuild_r1 : List Cond := [Cond.fieldLink RX2 12 "FreshShares$Orders" "circle" "LFreshShares$Circle;", Cond.static yX6_isMember, Cond.initialized RX6, Cond.code yX6_isMember cX6_isMember 1 (some .boolean), Cond.methodLink RX2 130 yX4_has, Cond.static yX4_has, Cond.initialized RX4, Cond.code yX4_has cX4_has 2 (some .boolean), Cond.methodLink RX2 68 yX2_openedByThose, Cond.instanceMethod yX2_openedByThose, Cond.selects RX2 yX2_openedByThose yX2_openedByThose, Cond.initialized RX2, Cond.code yX2_openedByThose cX2_openedByThose 5 (some .int), Cond.fieldLink RX2 18 "FreshShares$Orders" "told" "[I", Cond.methodLink RX2 134 yX2_hear, Cond.instanceMethod yX2_hear, Cond.selects RX2 yX2_hear yX2_hear, Cond.code yX2_hear cX2_hear 2 (some .boolean), Cond.methodLink RX2 147 yX0_tells, Cond.instanceMethod yX0_tells, Cond.selects RX0 yX0_tells yX0_tells, Cond.initialized RX0, Cond.code yX0_tells cX0_tells 2 (some .int), Cond.fieldLink RX0 18 "FreshShares$Circle" "shares" "[I"]
def wsX2_rebuild_r2 : List Cond := [Cond.methodLink RX0 71 yX0_bend, Cond.instanceMethod yX0_bend, Cond.selects RX0 yX0_bend yX0_bend, Cond.code yX0_bend cX0_bend 3 (some .int), Cond.fieldLink RX0 15 "FreshShares$Circle" "bends" "[I", Cond.methodLink RX0 75 yX5_plus, Cond.static yX5_plus, Cond.initialized RX5, Cond.code yX5_plus cX5_plus 2 (some .int), Cond.methodLink RX2 150 yX5_fitting, Cond.static yX5_fitting, Cond.code yX5_fitting cX5_fitting 6 (some .boolean), Cond.methodLink RX5 15 Lib.Math.min.name, Cond.static Lib.Math.min.name, Cond.initialized "java/lang/Math", Cond.code Lib.Math.min.name Lib.Math.min.code 2 (some .int), Cond.methodLink RX5 9 yX5_raised, Cond.static yX5_raised, Cond.code yX5_raised cX5_raised 4 (some .int), Cond.methodLink RX5 20 yX5_joined, Cond.static yX5_joined, Cond.code yX5_joined cX5_joined 2 (some .int), Cond.methodLink RX5 23 yX5_sealOf, Cond.static yX5_sealOf]
def wsX2_rebuild_r3 : List Cond := [Cond.code yX5_sealOf cX5_sealOf 1 (some .int), Cond.methodLink RX2 120 yX4_only, Cond.static yX4_only, Cond.code yX4_only cX4_only 1 (some .int), Cond.methodLink RX2 125 yJ6_bitCount_0f7a4, Cond.static yJ6_bitCount_0f7a4, Cond.initialized RJ6, Cond.code yJ6_bitCount_0f7a4 cJ6_bitCount_0f7a4 1 (some .int), Cond.constant RJ6 265 (1431655765), Cond.constant RJ6 266 (858993459), Cond.constant RJ6 267 (252645135), Cond.methodLink RX2 140 yX4_lowest, Cond.static yX4_lowest, Cond.code yX4_lowest cX4_lowest 5 (some .int), Cond.methodLink RX4 9 yX4_has, Cond.methodLink RX4 15 yX4_only, Cond.methodLink RX2 143 yX5_weighed, Cond.static yX5_weighed, Cond.code yX5_weighed cX5_weighed 5 (some .int), Cond.methodLink RX5 27 yX4_has, Cond.methodLink RX5 42 yX5_weight, Cond.static yX5_weight, Cond.code yX5_weight cX5_weight 6 (some .int), Cond.methodLink RX5 33 yX5_less]
def wsX2_rebuild_r4 : List Cond := [Cond.static yX5_less, Cond.code yX5_less cX5_less 2 (some .int), Cond.methodLink RX5 36 yX5_times, Cond.static yX5_times, Cond.code yX5_times cX5_times 2 (some .int), Cond.methodLink RX5 39 yX5_inverse, Cond.static yX5_inverse, Cond.code yX5_inverse cX5_inverse 3 (some .int), Cond.methodLink RX5 46 yX5_plus]
def wsX2_rebuild : List Cond := .code yX2_rebuild cX2_rebuild 4 (some .int) :: ((wsX2_rebuild_r1 ++ (wsX2_rebuild_r2 ++ (wsX2_rebuild_r3 ++ wsX2_rebuild_r4))) ++ wsX20 ++ wsX00)
def wsJ7_fill_53178 : List Cond := .code yJ7_fill_53178 cJ7_fill_53178 4 none :: ([])
def wsX2_move_r1 : List Cond := [Cond.fieldLink RX2 12 "FreshShares$Orders" "circle" "LFreshShares$Circle;", Cond.fieldLink RX2 31 "FreshShares$Orders" "taken" "I", Cond.fieldLink RX2 18 "FreshShares$Orders" "told" "[I", Cond.fieldLink RX2 28 "FreshShares$Orders" "factors" "[I", Cond.methodLink RX2 125 yJ6_bitCount_0f7a4, Cond.static yJ6_bitCount_0f7a4, Cond.initialized RJ6, Cond.code yJ6_bitCount_0f7a4 cJ6_bitCount_0f7a4 1 (some .int), Cond.constant RJ6 265 (1431655765), Cond.constant RJ6 266 (858993459), Cond.constant RJ6 267 (252645135), Cond.methodLink RX2 130 yX4_has, Cond.static yX4_has, Cond.initialized RX4, Cond.code yX4_has cX4_has 2 (some .boolean), Cond.methodLink RX2 134 yX2_hear, Cond.instanceMethod yX2_hear, Cond.selects RX2 yX2_hear yX2_hear, Cond.initialized RX2, Cond.code yX2_hear cX2_hear 2 (some .boolean), Cond.methodLink RX2 147 yX0_tells, Cond.instanceMethod yX0_tells, Cond.selects RX0 yX0_tells yX0_tells, Cond.initialized RX0]
def wsX2_move_r2 : List Cond := [Cond.code yX0_tells cX0_tells 2 (some .int), Cond.fieldLink RX0 18 "FreshShares$Circle" "shares" "[I", Cond.methodLink RX0 71 yX0_bend, Cond.instanceMethod yX0_bend, Cond.selects RX0 yX0_bend yX0_bend, Cond.code yX0_bend cX0_bend 3 (some .int), Cond.fieldLink RX0 15 "FreshShares$Circle" "bends" "[I", Cond.methodLink RX0 75 yX5_plus, Cond.static yX5_plus, Cond.initialized RX5, Cond.code yX5_plus cX5_plus 2 (some .int), Cond.methodLink RX2 150 yX5_fitting, Cond.static yX5_fitting, Cond.code yX5_fitting cX5_fitting 6 (some .boolean), Cond.methodLink RX5 15 Lib.Math.min.name, Cond.static Lib.Math.min.name, Cond.initialized "java/lang/Math", Cond.code Lib.Math.min.name Lib.Math.min.code 2 (some .int), Cond.methodLink RX5 9 yX5_raised, Cond.static yX5_raised, Cond.code yX5_raised cX5_raised 4 (some .int), Cond.methodLink RX5 20 yX5_joined, Cond.static yX5_joined, Cond.code yX5_joined cX5_joined 2 (some .int)]
def wsX2_move_r3 : List Cond := [Cond.methodLink RX5 23 yX5_sealOf, Cond.static yX5_sealOf, Cond.code yX5_sealOf cX5_sealOf 1 (some .int), Cond.methodLink RX2 120 yX4_only, Cond.static yX4_only, Cond.code yX4_only cX4_only 1 (some .int), Cond.methodLink RX2 167 yX2_offer, Cond.instanceMethod yX2_offer, Cond.selects RX2 yX2_offer yX2_offer, Cond.code yX2_offer cX2_offer 9 none, Cond.fieldLink RX2 22 "FreshShares$Orders" "polynomials" "[I", Cond.fieldLink RX2 25 "FreshShares$Orders" "sealsSent" "[I", Cond.methodLink RX2 101 yX5_sealOf, Cond.methodLink RX2 186 yX2_sent, Cond.instanceMethod yX2_sent, Cond.selects RX2 yX2_sent yX2_sent, Cond.code yX2_sent cX2_sent 5 (some .int), Cond.methodLink RX2 189 yX0_bend, Cond.methodLink RX2 109 yX2_polynomialAt, Cond.static yX2_polynomialAt, Cond.code yX2_polynomialAt cX2_polynomialAt 8 (some .int), Cond.methodLink RX2 208 Lib.Math.min.name, Cond.methodLink RX2 199 yX5_times, Cond.static yX5_times]
def wsX2_move_r4 : List Cond := [Cond.code yX5_times cX5_times 2 (some .int), Cond.methodLink RX2 192 yX5_plus, Cond.methodLink RX2 176 yX5_weight, Cond.static yX5_weight, Cond.code yX5_weight cX5_weight 6 (some .int), Cond.methodLink RX5 27 yX4_has, Cond.methodLink RX5 33 yX5_less, Cond.static yX5_less, Cond.code yX5_less cX5_less 2 (some .int), Cond.methodLink RX5 36 yX5_times, Cond.methodLink RX5 39 yX5_inverse, Cond.static yX5_inverse, Cond.code yX5_inverse cX5_inverse 3 (some .int), Cond.methodLink RX2 180 yJ7_fill_53178, Cond.static yJ7_fill_53178, Cond.initialized RJ7, Cond.code yJ7_fill_53178 cJ7_fill_53178 4 none, Cond.methodLink RX2 170 yX2_pourTaken, Cond.instanceMethod yX2_pourTaken, Cond.selects RX2 yX2_pourTaken yX2_pourTaken, Cond.code yX2_pourTaken cX2_pourTaken 3 none, Cond.methodLink RX2 195 yX2_pour, Cond.instanceMethod yX2_pour, Cond.selects RX2 yX2_pour yX2_pour]
def wsX2_move_r5 : List Cond := [Cond.code yX2_pour cX2_pour 5 none, Cond.methodLink RX2 202 yX5_raised, Cond.methodLink RX2 205 yX5_joined, Cond.methodLink RX2 173 yX2_closeEpoch, Cond.instanceMethod yX2_closeEpoch, Cond.selects RX2 yX2_closeEpoch yX2_closeEpoch, Cond.code yX2_closeEpoch cX2_closeEpoch 2 (some .int), Cond.methodLink RX2 116 yX0_beginEpoch, Cond.instanceMethod yX0_beginEpoch, Cond.selects RX0 yX0_beginEpoch yX0_beginEpoch, Cond.code yX0_beginEpoch cX0_beginEpoch 2 none, Cond.fieldLink RX0 41 "FreshShares$Circle" "epoch" "I", Cond.fieldLink RX0 38 "FreshShares$Circle" "threshold" "I", Cond.fieldLink RX0 24 "FreshShares$Circle" "thresholds" "[I", Cond.methodLink RX0 67 yX0_isLastEpoch, Cond.instanceMethod yX0_isLastEpoch, Cond.selects RX0 yX0_isLastEpoch yX0_isLastEpoch, Cond.code yX0_isLastEpoch cX0_isLastEpoch 1 (some .boolean)]
def wsX2_move : List Cond := .code yX2_move cX2_move 6 (some .int) :: ((wsX2_move_r1 ++ (wsX2_move_r2 ++ (wsX2_move_r3 ++ (wsX2_move_r4 ++ wsX2_move_r5)))) ++ wsX20 ++ wsX00)
def wsX2_steal : List Cond := .code yX2_steal cX2_steal 2 (some .int) :: ([.fieldLink RX2 12 "FreshShares$Orders" "circle" "LFreshShares$Circle;", .static yX6_isMember, .initialized RX6, .code yX6_isMember cX6_isMember 1 (some .boolean), .methodLink RX2 130 yX4_has, .static yX4_has, .initialized RX4, .code yX4_has cX4_has 2 (some .boolean), .methodLink RX2 160 yX1_add, .instanceMethod yX1_add, .selects RX1 yX1_add yX1_add, .initialized RX1, .code yX1_add cX1_add 4 none, .fieldLink RX1 9 "FreshShares$Loot" "members" "[I", .fieldLink RX1 21 "FreshShares$Loot" "size" "I", .fieldLink RX1 15 "FreshShares$Loot" "epochs" "[I", .fieldLink RX1 18 "FreshShares$Loot" "shares" "[I", .methodLink RX1 31 yX1_isFull, .instanceMethod yX1_isFull, .selects RX1 yX1_isFull yX1_isFull, .code yX1_isFull cX1_isFull 1 (some .boolean)] ++ wsX20 ++ wsX00 ++ wsX10)
def wsX2_perform_r1 : List Cond := [Cond.fieldLink RX2 12 "FreshShares$Orders" "circle" "LFreshShares$Circle;", Cond.methodLink RX2 41 yX3_letter, Cond.instanceMethod yX3_letter, Cond.selects RX3 yX3_letter yX3_letter, Cond.initialized RX3, Cond.code yX3_letter cX3_letter 1 (some .int), Cond.methodLink RX3 19 yX3_signAt, Cond.instanceMethod yX3_signAt, Cond.selects RX3 yX3_signAt yX3_signAt, Cond.code yX3_signAt cX3_signAt 2 (some .int), Cond.fieldLink RX3 15 "FreshShares$Script" "length" "I", Cond.fieldLink RX3 9 "FreshShares$Script" "signs" "[I", Cond.methodLink RX2 47 yX0_isDealt, Cond.instanceMethod yX0_isDealt, Cond.selects RX0 yX0_isDealt yX0_isDealt, Cond.initialized RX0, Cond.code yX0_isDealt cX0_isDealt 1 (some .boolean), Cond.fieldLink RX0 41 "FreshShares$Circle" "epoch" "I", Cond.methodLink RX2 51 yX2_isFull, Cond.instanceMethod yX2_isFull, Cond.selects RX2 yX2_isFull yX2_isFull, Cond.initialized RX2, Cond.code yX2_isFull cX2_isFull 2 (some .boolean), Cond.methodLink RX2 84 yX0_isLastEpoch]
def wsX2_perform_r2 : List Cond := [Cond.instanceMethod yX0_isLastEpoch, Cond.selects RX0 yX0_isLastEpoch yX0_isLastEpoch, Cond.code yX0_isLastEpoch cX0_isLastEpoch 1 (some .boolean), Cond.methodLink RX2 91 yX1_isFull, Cond.instanceMethod yX1_isFull, Cond.selects RX1 yX1_isFull yX1_isFull, Cond.initialized RX1, Cond.code yX1_isFull cX1_isFull 1 (some .boolean), Cond.fieldLink RX1 21 "FreshShares$Loot" "size" "I", Cond.methodLink RX2 55 yX3_figureAt, Cond.instanceMethod yX3_figureAt, Cond.selects RX3 yX3_figureAt yX3_figureAt, Cond.code yX3_figureAt cX3_figureAt 2 (some .int), Cond.methodLink RX2 59 yX3_members, Cond.instanceMethod yX3_members, Cond.selects RX3 yX3_members yX3_members, Cond.code yX3_members cX3_members 3 (some .int), Cond.methodLink RX3 31 yX3_firstOfSet, Cond.instanceMethod yX3_firstOfSet, Cond.selects RX3 yX3_firstOfSet yX3_firstOfSet, Cond.code yX3_firstOfSet cX3_firstOfSet 1 (some .int), Cond.methodLink RX3 45 yX3_letter, Cond.methodLink RX3 34 yX3_figureAt, Cond.static yX6_isMember]
def wsX2_perform_r3 : List Cond := [Cond.initialized RX6, Cond.code yX6_isMember cX6_isMember 1 (some .boolean), Cond.methodLink RX3 40 yX4_only, Cond.static yX4_only, Cond.initialized RX4, Cond.code yX4_only cX4_only 1 (some .int), Cond.methodLink RX2 62 yX2_deal, Cond.instanceMethod yX2_deal, Cond.selects RX2 yX2_deal yX2_deal, Cond.code yX2_deal cX2_deal 3 (some .int), Cond.methodLink RX2 101 yX5_sealOf, Cond.static yX5_sealOf, Cond.initialized RX5, Cond.code yX5_sealOf cX5_sealOf 1 (some .int), Cond.methodLink RX5 9 yX5_raised, Cond.static yX5_raised, Cond.code yX5_raised cX5_raised 4 (some .int), Cond.methodLink RX2 109 yX2_polynomialAt, Cond.static yX2_polynomialAt, Cond.code yX2_polynomialAt cX2_polynomialAt 8 (some .int), Cond.methodLink RX2 208 Lib.Math.min.name, Cond.static Lib.Math.min.name, Cond.initialized "java/lang/Math", Cond.code Lib.Math.min.name Lib.Math.min.code 2 (some .int)]
def wsX2_perform_r4 : List Cond := [Cond.methodLink RX2 199 yX5_times, Cond.static yX5_times, Cond.code yX5_times cX5_times 2 (some .int), Cond.methodLink RX2 192 yX5_plus, Cond.static yX5_plus, Cond.code yX5_plus cX5_plus 2 (some .int), Cond.methodLink RX2 116 yX0_beginEpoch, Cond.instanceMethod yX0_beginEpoch, Cond.selects RX0 yX0_beginEpoch yX0_beginEpoch, Cond.code yX0_beginEpoch cX0_beginEpoch 2 none, Cond.fieldLink RX0 38 "FreshShares$Circle" "threshold" "I", Cond.fieldLink RX0 24 "FreshShares$Circle" "thresholds" "[I", Cond.methodLink RX0 67 yX0_isLastEpoch, Cond.methodLink RX2 65 yX2_fresh, Cond.instanceMethod yX2_fresh, Cond.selects RX2 yX2_fresh yX2_fresh, Cond.code yX2_fresh cX2_fresh 3 (some .int), Cond.fieldLink RX2 31 "FreshShares$Orders" "taken" "I", Cond.fieldLink RX2 28 "FreshShares$Orders" "factors" "[I", Cond.methodLink RX2 130 yX4_has, Cond.static yX4_has, Cond.code yX4_has cX4_has 2 (some .boolean), Cond.methodLink RX2 167 yX2_offer, Cond.instanceMethod yX2_offer]
def wsX2_perform_r5 : List Cond := [Cond.selects RX2 yX2_offer yX2_offer, Cond.code yX2_offer cX2_offer 9 none, Cond.fieldLink RX2 22 "FreshShares$Orders" "polynomials" "[I", Cond.fieldLink RX2 25 "FreshShares$Orders" "sealsSent" "[I", Cond.methodLink RX2 186 yX2_sent, Cond.instanceMethod yX2_sent, Cond.selects RX2 yX2_sent yX2_sent, Cond.code yX2_sent cX2_sent 5 (some .int), Cond.methodLink RX2 189 yX0_bend, Cond.instanceMethod yX0_bend, Cond.selects RX0 yX0_bend yX0_bend, Cond.code yX0_bend cX0_bend 3 (some .int), Cond.fieldLink RX0 15 "FreshShares$Circle" "bends" "[I", Cond.methodLink RX2 150 yX5_fitting, Cond.static yX5_fitting, Cond.code yX5_fitting cX5_fitting 6 (some .boolean), Cond.methodLink RX5 15 Lib.Math.min.name, Cond.methodLink RX5 20 yX5_joined, Cond.static yX5_joined, Cond.code yX5_joined cX5_joined 2 (some .int), Cond.methodLink RX5 23 yX5_sealOf, Cond.methodLink RX2 120 yX4_only, Cond.methodLink RX2 170 yX2_pourTaken, Cond.instanceMethod yX2_pourTaken]
def wsX2_perform_r6 : List Cond := [Cond.selects RX2 yX2_pourTaken yX2_pourTaken, Cond.code yX2_pourTaken cX2_pourTaken 3 none, Cond.methodLink RX2 195 yX2_pour, Cond.instanceMethod yX2_pour, Cond.selects RX2 yX2_pour yX2_pour, Cond.code yX2_pour cX2_pour 5 none, Cond.methodLink RX2 202 yX5_raised, Cond.methodLink RX2 205 yX5_joined, Cond.methodLink RX2 173 yX2_closeEpoch, Cond.instanceMethod yX2_closeEpoch, Cond.selects RX2 yX2_closeEpoch yX2_closeEpoch, Cond.code yX2_closeEpoch cX2_closeEpoch 2 (some .int), Cond.methodLink RX2 125 yJ6_bitCount_0f7a4, Cond.static yJ6_bitCount_0f7a4, Cond.initialized RJ6, Cond.code yJ6_bitCount_0f7a4 cJ6_bitCount_0f7a4 1 (some .int), Cond.constant RJ6 265 (1431655765), Cond.constant RJ6 266 (858993459), Cond.constant RJ6 267 (252645135), Cond.methodLink RX2 68 yX2_openedByThose, Cond.instanceMethod yX2_openedByThose, Cond.selects RX2 yX2_openedByThose yX2_openedByThose, Cond.code yX2_openedByThose cX2_openedByThose 5 (some .int), Cond.fieldLink RX2 18 "FreshShares$Orders" "told" "[I"]
def wsX2_perform_r7 : List Cond := [Cond.methodLink RX2 134 yX2_hear, Cond.instanceMethod yX2_hear, Cond.selects RX2 yX2_hear yX2_hear, Cond.code yX2_hear cX2_hear 2 (some .boolean), Cond.methodLink RX2 147 yX0_tells, Cond.instanceMethod yX0_tells, Cond.selects RX0 yX0_tells yX0_tells, Cond.code yX0_tells cX0_tells 2 (some .int), Cond.fieldLink RX0 18 "FreshShares$Circle" "shares" "[I", Cond.methodLink RX0 71 yX0_bend, Cond.methodLink RX0 75 yX5_plus, Cond.methodLink RX2 140 yX4_lowest, Cond.static yX4_lowest, Cond.code yX4_lowest cX4_lowest 5 (some .int), Cond.methodLink RX4 9 yX4_has, Cond.methodLink RX4 15 yX4_only, Cond.methodLink RX2 143 yX5_weighed, Cond.static yX5_weighed, Cond.code yX5_weighed cX5_weighed 5 (some .int), Cond.methodLink RX5 27 yX4_has, Cond.methodLink RX5 42 yX5_weight, Cond.static yX5_weight, Cond.code yX5_weight cX5_weight 6 (some .int), Cond.methodLink RX5 33 yX5_less]
def wsX2_perform_r8 : List Cond := [Cond.static yX5_less, Cond.code yX5_less cX5_less 2 (some .int), Cond.methodLink RX5 36 yX5_times, Cond.methodLink RX5 39 yX5_inverse, Cond.static yX5_inverse, Cond.code yX5_inverse cX5_inverse 3 (some .int), Cond.methodLink RX5 46 yX5_plus, Cond.methodLink RX2 72 yX2_lose, Cond.instanceMethod yX2_lose, Cond.selects RX2 yX2_lose yX2_lose, Cond.code yX2_lose cX2_lose 2 (some .int), Cond.methodLink RX2 75 yX2_rebuild, Cond.instanceMethod yX2_rebuild, Cond.selects RX2 yX2_rebuild yX2_rebuild, Cond.code yX2_rebuild cX2_rebuild 4 (some .int), Cond.methodLink RX2 78 yX2_move, Cond.instanceMethod yX2_move, Cond.selects RX2 yX2_move yX2_move, Cond.code yX2_move cX2_move 6 (some .int), Cond.methodLink RX2 176 yX5_weight, Cond.methodLink RX2 180 yJ7_fill_53178, Cond.static yJ7_fill_53178, Cond.initialized RJ7, Cond.code yJ7_fill_53178 cJ7_fill_53178 4 none]
def wsX2_perform_r9 : List Cond := [Cond.methodLink RX2 81 yX2_steal, Cond.instanceMethod yX2_steal, Cond.selects RX2 yX2_steal yX2_steal, Cond.code yX2_steal cX2_steal 2 (some .int), Cond.methodLink RX2 160 yX1_add, Cond.instanceMethod yX1_add, Cond.selects RX1 yX1_add yX1_add, Cond.code yX1_add cX1_add 4 none, Cond.fieldLink RX1 9 "FreshShares$Loot" "members" "[I", Cond.fieldLink RX1 15 "FreshShares$Loot" "epochs" "[I", Cond.fieldLink RX1 18 "FreshShares$Loot" "shares" "[I", Cond.methodLink RX1 31 yX1_isFull]
def wsX2_perform : List Cond := .code yX2_perform cX2_perform 5 (some .int) :: ((wsX2_perform_r1 ++ (wsX2_perform_r2 ++ (wsX2_perform_r3 ++ (wsX2_perform_r4 ++ (wsX2_perform_r5 ++ (wsX2_perform_r6 ++ (wsX2_perform_r7 ++ (wsX2_perform_r8 ++ wsX2_perform_r9)))))))) ++ wsX20 ++ wsX00 ++ wsX30 ++ wsX10)
def wsX2_opened_r1 : List Cond := [Cond.fieldLink RX2 12 "FreshShares$Orders" "circle" "LFreshShares$Circle;", Cond.fieldLink RX2 18 "FreshShares$Orders" "told" "[I", Cond.methodLink RX2 213 yX1_victims, Cond.instanceMethod yX1_victims, Cond.selects RX1 yX1_victims yX1_victims, Cond.initialized RX1, Cond.code yX1_victims cX1_victims 4 (some .int), Cond.fieldLink RX1 21 "FreshShares$Loot" "size" "I", Cond.fieldLink RX1 15 "FreshShares$Loot" "epochs" "[I", Cond.fieldLink RX1 9 "FreshShares$Loot" "members" "[I", Cond.methodLink RX1 35 yX4_only, Cond.static yX4_only, Cond.initialized RX4, Cond.code yX4_only cX4_only 1 (some .int), Cond.methodLink RX2 125 yJ6_bitCount_0f7a4, Cond.static yJ6_bitCount_0f7a4, Cond.initialized RJ6, Cond.code yJ6_bitCount_0f7a4 cJ6_bitCount_0f7a4 1 (some .int), Cond.constant RJ6 265 (1431655765), Cond.constant RJ6 266 (858993459), Cond.constant RJ6 267 (252645135), Cond.methodLink RX2 140 yX4_lowest, Cond.static yX4_lowest, Cond.code yX4_lowest cX4_lowest 5 (some .int)]
def wsX2_opened_r2 : List Cond := [Cond.methodLink RX4 9 yX4_has, Cond.static yX4_has, Cond.code yX4_has cX4_has 2 (some .boolean), Cond.methodLink RX4 15 yX4_only, Cond.methodLink RX2 216 yX1_firstShare, Cond.instanceMethod yX1_firstShare, Cond.selects RX1 yX1_firstShare yX1_firstShare, Cond.code yX1_firstShare cX1_firstShare 4 (some .int), Cond.fieldLink RX1 18 "FreshShares$Loot" "shares" "[I", Cond.methodLink RX2 143 yX5_weighed, Cond.static yX5_weighed, Cond.initialized RX5, Cond.code yX5_weighed cX5_weighed 5 (some .int), Cond.methodLink RX5 27 yX4_has, Cond.methodLink RX5 42 yX5_weight, Cond.static yX5_weight, Cond.code yX5_weight cX5_weight 6 (some .int), Cond.methodLink RX5 33 yX5_less, Cond.static yX5_less, Cond.code yX5_less cX5_less 2 (some .int), Cond.methodLink RX5 36 yX5_times, Cond.static yX5_times, Cond.code yX5_times cX5_times 2 (some .int), Cond.methodLink RX5 39 yX5_inverse]
def wsX2_opened_r3 : List Cond := [Cond.static yX5_inverse, Cond.code yX5_inverse cX5_inverse 3 (some .int), Cond.methodLink RX5 46 yX5_plus, Cond.static yX5_plus, Cond.code yX5_plus cX5_plus 2 (some .int)]
def wsX2_opened : List Cond := .code yX2_opened cX2_opened 6 (some .int) :: ((wsX2_opened_r1 ++ (wsX2_opened_r2 ++ wsX2_opened_r3)) ++ wsX20 ++ wsX00 ++ wsX10)
def wsX2_worldsLeft_r1 : List Cond := [Cond.fieldLink RX2 12 "FreshShares$Orders" "circle" "LFreshShares$Circle;", Cond.methodLink RX2 219 yX0_thresholdOf, Cond.instanceMethod yX0_thresholdOf, Cond.selects RX0 yX0_thresholdOf yX0_thresholdOf, Cond.initialized RX0, Cond.code yX0_thresholdOf cX0_thresholdOf 2 (some .int), Cond.fieldLink RX0 24 "FreshShares$Circle" "thresholds" "[I", Cond.methodLink RX0 63 yX0_wasEpoch, Cond.instanceMethod yX0_wasEpoch, Cond.selects RX0 yX0_wasEpoch yX0_wasEpoch, Cond.code yX0_wasEpoch cX0_wasEpoch 2 (some .boolean), Cond.fieldLink RX0 41 "FreshShares$Circle" "epoch" "I", Cond.methodLink RX2 213 yX1_victims, Cond.instanceMethod yX1_victims, Cond.selects RX1 yX1_victims yX1_victims, Cond.initialized RX1, Cond.code yX1_victims cX1_victims 4 (some .int), Cond.fieldLink RX1 21 "FreshShares$Loot" "size" "I", Cond.fieldLink RX1 15 "FreshShares$Loot" "epochs" "[I", Cond.fieldLink RX1 9 "FreshShares$Loot" "members" "[I", Cond.methodLink RX1 35 yX4_only, Cond.static yX4_only, Cond.initialized RX4, Cond.code yX4_only cX4_only 1 (some .int)]
def wsX2_worldsLeft_r2 : List Cond := [Cond.methodLink RX2 125 yJ6_bitCount_0f7a4, Cond.static yJ6_bitCount_0f7a4, Cond.initialized RJ6, Cond.code yJ6_bitCount_0f7a4 cJ6_bitCount_0f7a4 1 (some .int), Cond.constant RJ6 265 (1431655765), Cond.constant RJ6 266 (858993459), Cond.constant RJ6 267 (252645135), Cond.methodLink RX2 222 yX2_opened, Cond.instanceMethod yX2_opened, Cond.selects RX2 yX2_opened yX2_opened, Cond.initialized RX2, Cond.code yX2_opened cX2_opened 6 (some .int), Cond.fieldLink RX2 18 "FreshShares$Orders" "told" "[I", Cond.methodLink RX2 140 yX4_lowest, Cond.static yX4_lowest, Cond.code yX4_lowest cX4_lowest 5 (some .int), Cond.methodLink RX4 9 yX4_has, Cond.static yX4_has, Cond.code yX4_has cX4_has 2 (some .boolean), Cond.methodLink RX4 15 yX4_only, Cond.methodLink RX2 216 yX1_firstShare, Cond.instanceMethod yX1_firstShare, Cond.selects RX1 yX1_firstShare yX1_firstShare, Cond.code yX1_firstShare cX1_firstShare 4 (some .int)]
def wsX2_worldsLeft_r3 : List Cond := [Cond.fieldLink RX1 18 "FreshShares$Loot" "shares" "[I", Cond.methodLink RX2 143 yX5_weighed, Cond.static yX5_weighed, Cond.initialized RX5, Cond.code yX5_weighed cX5_weighed 5 (some .int), Cond.methodLink RX5 27 yX4_has, Cond.methodLink RX5 42 yX5_weight, Cond.static yX5_weight, Cond.code yX5_weight cX5_weight 6 (some .int), Cond.methodLink RX5 33 yX5_less, Cond.static yX5_less, Cond.code yX5_less cX5_less 2 (some .int), Cond.methodLink RX5 36 yX5_times, Cond.static yX5_times, Cond.code yX5_times cX5_times 2 (some .int), Cond.methodLink RX5 39 yX5_inverse, Cond.static yX5_inverse, Cond.code yX5_inverse cX5_inverse 3 (some .int), Cond.methodLink RX5 46 yX5_plus, Cond.static yX5_plus, Cond.code yX5_plus cX5_plus 2 (some .int)]
def wsX2_worldsLeft : List Cond := .code yX2_worldsLeft cX2_worldsLeft 7 (some .int) :: ((wsX2_worldsLeft_r1 ++ (wsX2_worldsLeft_r2 ++ wsX2_worldsLeft_r3)) ++ wsX20 ++ wsX00 ++ wsX10)
def wsX3_init : List Cond := .code yX3_init cX3_init 1 none :: ([.methodLink RX3 3 objectInit, .instanceMethod objectInit, .code objectInit ⟨#[0xb1]⟩ 1 none, .arrayClass .int, .fieldLink RX3 9 "FreshShares$Script" "signs" "[I", .fieldLink RX3 15 "FreshShares$Script" "length" "I"] ++ wsX30)
def wsX3_append : List Cond := .code yX3_append cX3_append 2 (some .boolean) :: ([.fieldLink RX3 15 "FreshShares$Script" "length" "I", .fieldLink RX3 9 "FreshShares$Script" "signs" "[I"] ++ wsX30)
def wsX3_isLetter : List Cond := .code yX3_isLetter cX3_isLetter 1 (some .boolean) :: ([])
def wsX3_canStand_r1 : List Cond := [Cond.methodLink RX3 45 yX3_letter, Cond.instanceMethod yX3_letter, Cond.selects RX3 yX3_letter yX3_letter, Cond.initialized RX3, Cond.code yX3_letter cX3_letter 1 (some .int), Cond.methodLink RX3 19 yX3_signAt, Cond.instanceMethod yX3_signAt, Cond.selects RX3 yX3_signAt yX3_signAt, Cond.code yX3_signAt cX3_signAt 2 (some .int), Cond.fieldLink RX3 15 "FreshShares$Script" "length" "I", Cond.fieldLink RX3 9 "FreshShares$Script" "signs" "[I", Cond.methodLink RX3 48 yX3_isLetter, Cond.static yX3_isLetter, Cond.code yX3_isLetter cX3_isLetter 1 (some .boolean), Cond.methodLink RX3 34 yX3_figureAt, Cond.instanceMethod yX3_figureAt, Cond.selects RX3 yX3_figureAt yX3_figureAt, Cond.code yX3_figureAt cX3_figureAt 2 (some .int), Cond.methodLink RX3 31 yX3_firstOfSet, Cond.instanceMethod yX3_firstOfSet, Cond.selects RX3 yX3_firstOfSet yX3_firstOfSet, Cond.code yX3_firstOfSet cX3_firstOfSet 1 (some .int), Cond.static yX6_isMember, Cond.initialized RX6]
def wsX3_canStand_r2 : List Cond := [Cond.code yX6_isMember cX6_isMember 1 (some .boolean)]
def wsX3_canStand : List Cond := .code yX3_canStand cX3_canStand 4 (some .boolean) :: ((wsX3_canStand_r1 ++ wsX3_canStand_r2) ++ wsX30)
def wsX3_fewestSigns : List Cond := .code yX3_fewestSigns cX3_fewestSigns 1 (some .int) :: ([.methodLink RX3 45 yX3_letter, .instanceMethod yX3_letter, .selects RX3 yX3_letter yX3_letter, .initialized RX3, .code yX3_letter cX3_letter 1 (some .int), .methodLink RX3 19 yX3_signAt, .instanceMethod yX3_signAt, .selects RX3 yX3_signAt yX3_signAt, .code yX3_signAt cX3_signAt 2 (some .int), .fieldLink RX3 15 "FreshShares$Script" "length" "I", .fieldLink RX3 9 "FreshShares$Script" "signs" "[I"] ++ wsX30)
def wsX3_faultPlace_r1 : List Cond := [Cond.fieldLink RX3 15 "FreshShares$Script" "length" "I", Cond.methodLink RX3 23 yX3_canStand, Cond.instanceMethod yX3_canStand, Cond.selects RX3 yX3_canStand yX3_canStand, Cond.initialized RX3, Cond.code yX3_canStand cX3_canStand 4 (some .boolean), Cond.methodLink RX3 45 yX3_letter, Cond.instanceMethod yX3_letter, Cond.selects RX3 yX3_letter yX3_letter, Cond.code yX3_letter cX3_letter 1 (some .int), Cond.methodLink RX3 19 yX3_signAt, Cond.instanceMethod yX3_signAt, Cond.selects RX3 yX3_signAt yX3_signAt, Cond.code yX3_signAt cX3_signAt 2 (some .int), Cond.fieldLink RX3 9 "FreshShares$Script" "signs" "[I", Cond.methodLink RX3 48 yX3_isLetter, Cond.static yX3_isLetter, Cond.code yX3_isLetter cX3_isLetter 1 (some .boolean), Cond.methodLink RX3 34 yX3_figureAt, Cond.instanceMethod yX3_figureAt, Cond.selects RX3 yX3_figureAt yX3_figureAt, Cond.code yX3_figureAt cX3_figureAt 2 (some .int), Cond.methodLink RX3 31 yX3_firstOfSet, Cond.instanceMethod yX3_firstOfSet]
def wsX3_faultPlace_r2 : List Cond := [Cond.selects RX3 yX3_firstOfSet yX3_firstOfSet, Cond.code yX3_firstOfSet cX3_firstOfSet 1 (some .int), Cond.static yX6_isMember, Cond.initialized RX6, Cond.code yX6_isMember cX6_isMember 1 (some .boolean), Cond.methodLink RX3 27 yX3_fewestSigns, Cond.instanceMethod yX3_fewestSigns, Cond.selects RX3 yX3_fewestSigns yX3_fewestSigns, Cond.code yX3_fewestSigns cX3_fewestSigns 1 (some .int)]
def wsX3_faultPlace : List Cond := .code yX3_faultPlace cX3_faultPlace 2 (some .int) :: ((wsX3_faultPlace_r1 ++ wsX3_faultPlace_r2) ++ wsX30)
def wsX6_init_r1 : List Cond := [Cond.methodLink RX6 1 objectInit, Cond.instanceMethod objectInit, Cond.code objectInit ⟨#[0xb1]⟩ 1 none, Cond.classLink RX6 7 RX3, Cond.instantiable RX3 2, Cond.initialized RX3, Cond.fieldLink RX6 10 "FreshShares" "script" "LFreshShares$Script;", Cond.classLink RX6 16 RX2, Cond.instantiable RX2 6, Cond.initialized RX2, Cond.fieldLink RX6 19 "FreshShares" "orders" "LFreshShares$Orders;", Cond.fieldLink RX6 27 "FreshShares" "circle" "LFreshShares$Circle;", Cond.classLink RX6 28 RX0, Cond.fieldLink RX6 30 "FreshShares" "images" "[LFreshShares$Circle;", Cond.methodLink RX6 9 yX3_init, Cond.instanceMethod yX3_init, Cond.code yX3_init cX3_init 1 none, Cond.methodLink RX3 3 objectInit, Cond.arrayClass .int, Cond.fieldLink RX3 9 "FreshShares$Script" "signs" "[I", Cond.fieldLink RX3 15 "FreshShares$Script" "length" "I", Cond.methodLink RX6 18 yX2_init, Cond.instanceMethod yX2_init, Cond.code yX2_init cX2_init 1 none]
def wsX6_init_r2 : List Cond := [Cond.methodLink RX2 3 objectInit, Cond.classLink RX2 9 RX0, Cond.instantiable RX0 12, Cond.initialized RX0, Cond.fieldLink RX2 12 "FreshShares$Orders" "circle" "LFreshShares$Circle;", Cond.fieldLink RX2 18 "FreshShares$Orders" "told" "[I", Cond.fieldLink RX2 22 "FreshShares$Orders" "polynomials" "[I", Cond.fieldLink RX2 25 "FreshShares$Orders" "sealsSent" "[I", Cond.fieldLink RX2 28 "FreshShares$Orders" "factors" "[I", Cond.fieldLink RX2 31 "FreshShares$Orders" "taken" "I", Cond.methodLink RX2 11 yX0_init, Cond.instanceMethod yX0_init, Cond.code yX0_init cX0_init 2 none, Cond.methodLink RX0 3 objectInit, Cond.fieldLink RX0 9 "FreshShares$Circle" "rows" "[I", Cond.fieldLink RX0 15 "FreshShares$Circle" "bends" "[I", Cond.fieldLink RX0 18 "FreshShares$Circle" "shares" "[I", Cond.fieldLink RX0 21 "FreshShares$Circle" "seals" "[I", Cond.fieldLink RX0 24 "FreshShares$Circle" "thresholds" "[I", Cond.classLink RX0 27 RX1, Cond.instantiable RX1 4, Cond.initialized RX1, Cond.fieldLink RX0 30 "FreshShares$Circle" "stolen" "LFreshShares$Loot;", Cond.fieldLink RX0 34 "FreshShares$Circle" "holders" "I"]
def wsX6_init_r3 : List Cond := [Cond.fieldLink RX0 38 "FreshShares$Circle" "threshold" "I", Cond.fieldLink RX0 41 "FreshShares$Circle" "epoch" "I", Cond.fieldLink RX0 44 "FreshShares$Circle" "liars" "I", Cond.fieldLink RX0 47 "FreshShares$Circle" "struck" "I", Cond.fieldLink RX0 50 "FreshShares$Circle" "ordersDone" "I", Cond.methodLink RX0 29 yX1_init, Cond.instanceMethod yX1_init, Cond.code yX1_init cX1_init 1 none, Cond.methodLink RX1 3 objectInit, Cond.fieldLink RX1 9 "FreshShares$Loot" "members" "[I", Cond.fieldLink RX1 15 "FreshShares$Loot" "epochs" "[I", Cond.fieldLink RX1 18 "FreshShares$Loot" "shares" "[I", Cond.fieldLink RX1 21 "FreshShares$Loot" "size" "I"]
def wsX6_init : List Cond := .code yX6_init cX6_init 1 none :: ((wsX6_init_r1 ++ (wsX6_init_r2 ++ wsX6_init_r3)) ++ wsX30 ++ wsX60 ++ wsX20 ++ wsX00 ++ wsX10)
def wsX6_isValue : List Cond := .code yX6_isValue cX6_isValue 1 (some .boolean) :: ([])
def wsX6_row : List Cond := .code yX6_row cX6_row 6 (some .int) :: ([.fieldLink RX6 27 "FreshShares" "circle" "LFreshShares$Circle;", .methodLink RX6 34 yX6_isMember, .static yX6_isMember, .initialized RX6, .code yX6_isMember cX6_isMember 1 (some .boolean), .methodLink RX6 38 yX6_isValue, .static yX6_isValue, .code yX6_isValue cX6_isValue 1 (some .boolean)] ++ wsX60 ++ wsX00)
def wsX6_highestBend : List Cond := .code yX6_highestBend cX6_highestBend 1 (some .int) :: ([])
def wsX6_bent : List Cond := .code yX6_bent cX6_bent 6 (some .int) :: ([.fieldLink RX6 27 "FreshShares" "circle" "LFreshShares$Circle;", .methodLink RX6 34 yX6_isMember, .static yX6_isMember, .initialized RX6, .code yX6_isMember cX6_isMember 1 (some .boolean), .methodLink RX6 45 yX6_highestBend, .static yX6_highestBend, .code yX6_highestBend cX6_highestBend 1 (some .int)] ++ wsX60 ++ wsX00)
def wsX6_shareFacts_r1 : List Cond := [Cond.fieldLink RX6 27 "FreshShares" "circle" "LFreshShares$Circle;", Cond.methodLink RX6 96 yX4_has, Cond.static yX4_has, Cond.initialized RX4, Cond.code yX4_has cX4_has 2 (some .boolean), Cond.methodLink RX6 162 yX0_tells, Cond.instanceMethod yX0_tells, Cond.selects RX0 yX0_tells yX0_tells, Cond.initialized RX0, Cond.code yX0_tells cX0_tells 2 (some .int), Cond.fieldLink RX0 18 "FreshShares$Circle" "shares" "[I", Cond.methodLink RX0 71 yX0_bend, Cond.instanceMethod yX0_bend, Cond.selects RX0 yX0_bend yX0_bend, Cond.code yX0_bend cX0_bend 3 (some .int), Cond.fieldLink RX0 15 "FreshShares$Circle" "bends" "[I", Cond.methodLink RX0 75 yX5_plus, Cond.static yX5_plus, Cond.initialized RX5, Cond.code yX5_plus cX5_plus 2 (some .int), Cond.methodLink RX6 90 yX5_fitting, Cond.static yX5_fitting, Cond.code yX5_fitting cX5_fitting 6 (some .boolean), Cond.methodLink RX5 15 Lib.Math.min.name]
def wsX6_shareFacts_r2 : List Cond := [Cond.static Lib.Math.min.name, Cond.initialized "java/lang/Math", Cond.code Lib.Math.min.name Lib.Math.min.code 2 (some .int), Cond.methodLink RX5 9 yX5_raised, Cond.static yX5_raised, Cond.code yX5_raised cX5_raised 4 (some .int), Cond.methodLink RX5 20 yX5_joined, Cond.static yX5_joined, Cond.code yX5_joined cX5_joined 2 (some .int), Cond.methodLink RX5 23 yX5_sealOf, Cond.static yX5_sealOf, Cond.code yX5_sealOf cX5_sealOf 1 (some .int)]
def wsX6_shareFacts : List Cond := .code yX6_shareFacts cX6_shareFacts 4 (some .int) :: ((wsX6_shareFacts_r1 ++ wsX6_shareFacts_r2) ++ wsX60 ++ wsX00)
def wsX6_member_r1 : List Cond := [Cond.fieldLink RX6 27 "FreshShares" "circle" "LFreshShares$Circle;", Cond.methodLink RX6 34 yX6_isMember, Cond.static yX6_isMember, Cond.initialized RX6, Cond.code yX6_isMember cX6_isMember 1 (some .boolean), Cond.methodLink RX6 52 yX6_shareFacts, Cond.instanceMethod yX6_shareFacts, Cond.selects RX6 yX6_shareFacts yX6_shareFacts, Cond.code yX6_shareFacts cX6_shareFacts 4 (some .int), Cond.methodLink RX6 96 yX4_has, Cond.static yX4_has, Cond.initialized RX4, Cond.code yX4_has cX4_has 2 (some .boolean), Cond.methodLink RX6 162 yX0_tells, Cond.instanceMethod yX0_tells, Cond.selects RX0 yX0_tells yX0_tells, Cond.initialized RX0, Cond.code yX0_tells cX0_tells 2 (some .int), Cond.fieldLink RX0 18 "FreshShares$Circle" "shares" "[I", Cond.methodLink RX0 71 yX0_bend, Cond.instanceMethod yX0_bend, Cond.selects RX0 yX0_bend yX0_bend, Cond.code yX0_bend cX0_bend 3 (some .int), Cond.fieldLink RX0 15 "FreshShares$Circle" "bends" "[I"]
def wsX6_member_r2 : List Cond := [Cond.methodLink RX0 75 yX5_plus, Cond.static yX5_plus, Cond.initialized RX5, Cond.code yX5_plus cX5_plus 2 (some .int), Cond.methodLink RX6 90 yX5_fitting, Cond.static yX5_fitting, Cond.code yX5_fitting cX5_fitting 6 (some .boolean), Cond.methodLink RX5 15 Lib.Math.min.name, Cond.static Lib.Math.min.name, Cond.initialized "java/lang/Math", Cond.code Lib.Math.min.name Lib.Math.min.code 2 (some .int), Cond.methodLink RX5 9 yX5_raised, Cond.static yX5_raised, Cond.code yX5_raised cX5_raised 4 (some .int), Cond.methodLink RX5 20 yX5_joined, Cond.static yX5_joined, Cond.code yX5_joined cX5_joined 2 (some .int), Cond.methodLink RX5 23 yX5_sealOf, Cond.static yX5_sealOf, Cond.code yX5_sealOf cX5_sealOf 1 (some .int)]
def wsX6_member : List Cond := .code yX6_member cX6_member 3 (some .int) :: ((wsX6_member_r1 ++ wsX6_member_r2) ++ wsX60 ++ wsX00)
def wsX6_say : List Cond := .code yX6_say cX6_say 2 (some .int) :: ([.fieldLink RX6 10 "FreshShares" "script" "LFreshShares$Script;", .methodLink RX6 56 yX3_append, .instanceMethod yX3_append, .selects RX3 yX3_append yX3_append, .initialized RX3, .code yX3_append cX3_append 2 (some .boolean), .fieldLink RX3 15 "FreshShares$Script" "length" "I", .fieldLink RX3 9 "FreshShares$Script" "signs" "[I"] ++ wsX60 ++ wsX30)
def wsX6_wipe : List Cond := .code yX6_wipe cX6_wipe 2 (some .int) :: ([.fieldLink RX6 10 "FreshShares" "script" "LFreshShares$Script;"] ++ wsX60 ++ wsX30)
def wsX6_fault_r1 : List Cond := [Cond.fieldLink RX6 10 "FreshShares" "script" "LFreshShares$Script;", Cond.methodLink RX6 63 yX3_faultPlace, Cond.instanceMethod yX3_faultPlace, Cond.selects RX3 yX3_faultPlace yX3_faultPlace, Cond.initialized RX3, Cond.code yX3_faultPlace cX3_faultPlace 2 (some .int), Cond.fieldLink RX3 15 "FreshShares$Script" "length" "I", Cond.methodLink RX3 23 yX3_canStand, Cond.instanceMethod yX3_canStand, Cond.selects RX3 yX3_canStand yX3_canStand, Cond.code yX3_canStand cX3_canStand 4 (some .boolean), Cond.methodLink RX3 45 yX3_letter, Cond.instanceMethod yX3_letter, Cond.selects RX3 yX3_letter yX3_letter, Cond.code yX3_letter cX3_letter 1 (some .int), Cond.methodLink RX3 19 yX3_signAt, Cond.instanceMethod yX3_signAt, Cond.selects RX3 yX3_signAt yX3_signAt, Cond.code yX3_signAt cX3_signAt 2 (some .int), Cond.fieldLink RX3 9 "FreshShares$Script" "signs" "[I", Cond.methodLink RX3 48 yX3_isLetter, Cond.static yX3_isLetter, Cond.code yX3_isLetter cX3_isLetter 1 (some .boolean), Cond.methodLink RX3 34 yX3_figureAt]
def wsX6_fault_r2 : List Cond := [Cond.instanceMethod yX3_figureAt, Cond.selects RX3 yX3_figureAt yX3_figureAt, Cond.code yX3_figureAt cX3_figureAt 2 (some .int), Cond.methodLink RX3 31 yX3_firstOfSet, Cond.instanceMethod yX3_firstOfSet, Cond.selects RX3 yX3_firstOfSet yX3_firstOfSet, Cond.code yX3_firstOfSet cX3_firstOfSet 1 (some .int), Cond.static yX6_isMember, Cond.initialized RX6, Cond.code yX6_isMember cX6_isMember 1 (some .boolean), Cond.methodLink RX3 27 yX3_fewestSigns, Cond.instanceMethod yX3_fewestSigns, Cond.selects RX3 yX3_fewestSigns yX3_fewestSigns, Cond.code yX3_fewestSigns cX3_fewestSigns 1 (some .int)]
def wsX6_fault : List Cond := .code yX6_fault cX6_fault 1 (some .int) :: ((wsX6_fault_r1 ++ wsX6_fault_r2) ++ wsX60 ++ wsX30)
def wsX6_act_r1 : List Cond := [Cond.fieldLink RX6 10 "FreshShares" "script" "LFreshShares$Script;", Cond.fieldLink RX6 19 "FreshShares" "orders" "LFreshShares$Orders;", Cond.fieldLink RX6 27 "FreshShares" "circle" "LFreshShares$Circle;", Cond.methodLink RX6 63 yX3_faultPlace, Cond.instanceMethod yX3_faultPlace, Cond.selects RX3 yX3_faultPlace yX3_faultPlace, Cond.initialized RX3, Cond.code yX3_faultPlace cX3_faultPlace 2 (some .int), Cond.fieldLink RX3 15 "FreshShares$Script" "length" "I", Cond.methodLink RX3 23 yX3_canStand, Cond.instanceMethod yX3_canStand, Cond.selects RX3 yX3_canStand yX3_canStand, Cond.code yX3_canStand cX3_canStand 4 (some .boolean), Cond.methodLink RX3 45 yX3_letter, Cond.instanceMethod yX3_letter, Cond.selects RX3 yX3_letter yX3_letter, Cond.code yX3_letter cX3_letter 1 (some .int), Cond.methodLink RX3 19 yX3_signAt, Cond.instanceMethod yX3_signAt, Cond.selects RX3 yX3_signAt yX3_signAt, Cond.code yX3_signAt cX3_signAt 2 (some .int), Cond.fieldLink RX3 9 "FreshShares$Script" "signs" "[I", Cond.methodLink RX3 48 yX3_isLetter, Cond.static yX3_isLetter]
def wsX6_act_r2 : List Cond := [Cond.code yX3_isLetter cX3_isLetter 1 (some .boolean), Cond.methodLink RX3 34 yX3_figureAt, Cond.instanceMethod yX3_figureAt, Cond.selects RX3 yX3_figureAt yX3_figureAt, Cond.code yX3_figureAt cX3_figureAt 2 (some .int), Cond.methodLink RX3 31 yX3_firstOfSet, Cond.instanceMethod yX3_firstOfSet, Cond.selects RX3 yX3_firstOfSet yX3_firstOfSet, Cond.code yX3_firstOfSet cX3_firstOfSet 1 (some .int), Cond.static yX6_isMember, Cond.initialized RX6, Cond.code yX6_isMember cX6_isMember 1 (some .boolean), Cond.methodLink RX3 27 yX3_fewestSigns, Cond.instanceMethod yX3_fewestSigns, Cond.selects RX3 yX3_fewestSigns yX3_fewestSigns, Cond.code yX3_fewestSigns cX3_fewestSigns 1 (some .int), Cond.methodLink RX6 67 yX2_perform, Cond.instanceMethod yX2_perform, Cond.selects RX2 yX2_perform yX2_perform, Cond.initialized RX2, Cond.code yX2_perform cX2_perform 5 (some .int), Cond.fieldLink RX2 12 "FreshShares$Orders" "circle" "LFreshShares$Circle;", Cond.methodLink RX2 41 yX3_letter, Cond.methodLink RX2 47 yX0_isDealt]
def wsX6_act_r3 : List Cond := [Cond.instanceMethod yX0_isDealt, Cond.selects RX0 yX0_isDealt yX0_isDealt, Cond.initialized RX0, Cond.code yX0_isDealt cX0_isDealt 1 (some .boolean), Cond.fieldLink RX0 41 "FreshShares$Circle" "epoch" "I", Cond.methodLink RX2 51 yX2_isFull, Cond.instanceMethod yX2_isFull, Cond.selects RX2 yX2_isFull yX2_isFull, Cond.code yX2_isFull cX2_isFull 2 (some .boolean), Cond.methodLink RX2 84 yX0_isLastEpoch, Cond.instanceMethod yX0_isLastEpoch, Cond.selects RX0 yX0_isLastEpoch yX0_isLastEpoch, Cond.code yX0_isLastEpoch cX0_isLastEpoch 1 (some .boolean), Cond.methodLink RX2 91 yX1_isFull, Cond.instanceMethod yX1_isFull, Cond.selects RX1 yX1_isFull yX1_isFull, Cond.initialized RX1, Cond.code yX1_isFull cX1_isFull 1 (some .boolean), Cond.fieldLink RX1 21 "FreshShares$Loot" "size" "I", Cond.methodLink RX2 55 yX3_figureAt, Cond.methodLink RX2 59 yX3_members, Cond.instanceMethod yX3_members, Cond.selects RX3 yX3_members yX3_members, Cond.code yX3_members cX3_members 3 (some .int)]
def wsX6_act_r4 : List Cond := [Cond.methodLink RX3 40 yX4_only, Cond.static yX4_only, Cond.initialized RX4, Cond.code yX4_only cX4_only 1 (some .int), Cond.methodLink RX2 62 yX2_deal, Cond.instanceMethod yX2_deal, Cond.selects RX2 yX2_deal yX2_deal, Cond.code yX2_deal cX2_deal 3 (some .int), Cond.methodLink RX2 101 yX5_sealOf, Cond.static yX5_sealOf, Cond.initialized RX5, Cond.code yX5_sealOf cX5_sealOf 1 (some .int), Cond.methodLink RX5 9 yX5_raised, Cond.static yX5_raised, Cond.code yX5_raised cX5_raised 4 (some .int), Cond.methodLink RX2 109 yX2_polynomialAt, Cond.static yX2_polynomialAt, Cond.code yX2_polynomialAt cX2_polynomialAt 8 (some .int), Cond.methodLink RX2 208 Lib.Math.min.name, Cond.static Lib.Math.min.name, Cond.initialized "java/lang/Math", Cond.code Lib.Math.min.name Lib.Math.min.code 2 (some .int), Cond.methodLink RX2 199 yX5_times, Cond.static yX5_times]
def wsX6_act_r5 : List Cond := [Cond.code yX5_times cX5_times 2 (some .int), Cond.methodLink RX2 192 yX5_plus, Cond.static yX5_plus, Cond.code yX5_plus cX5_plus 2 (some .int), Cond.methodLink RX2 116 yX0_beginEpoch, Cond.instanceMethod yX0_beginEpoch, Cond.selects RX0 yX0_beginEpoch yX0_beginEpoch, Cond.code yX0_beginEpoch cX0_beginEpoch 2 none, Cond.fieldLink RX0 38 "FreshShares$Circle" "threshold" "I", Cond.fieldLink RX0 24 "FreshShares$Circle" "thresholds" "[I", Cond.methodLink RX0 67 yX0_isLastEpoch, Cond.methodLink RX2 65 yX2_fresh, Cond.instanceMethod yX2_fresh, Cond.selects RX2 yX2_fresh yX2_fresh, Cond.code yX2_fresh cX2_fresh 3 (some .int), Cond.fieldLink RX2 31 "FreshShares$Orders" "taken" "I", Cond.fieldLink RX2 28 "FreshShares$Orders" "factors" "[I", Cond.methodLink RX2 130 yX4_has, Cond.static yX4_has, Cond.code yX4_has cX4_has 2 (some .boolean), Cond.methodLink RX2 167 yX2_offer, Cond.instanceMethod yX2_offer, Cond.selects RX2 yX2_offer yX2_offer, Cond.code yX2_offer cX2_offer 9 none]
def wsX6_act_r6 : List Cond := [Cond.fieldLink RX2 22 "FreshShares$Orders" "polynomials" "[I", Cond.fieldLink RX2 25 "FreshShares$Orders" "sealsSent" "[I", Cond.methodLink RX2 186 yX2_sent, Cond.instanceMethod yX2_sent, Cond.selects RX2 yX2_sent yX2_sent, Cond.code yX2_sent cX2_sent 5 (some .int), Cond.methodLink RX2 189 yX0_bend, Cond.instanceMethod yX0_bend, Cond.selects RX0 yX0_bend yX0_bend, Cond.code yX0_bend cX0_bend 3 (some .int), Cond.fieldLink RX0 15 "FreshShares$Circle" "bends" "[I", Cond.methodLink RX2 150 yX5_fitting, Cond.static yX5_fitting, Cond.code yX5_fitting cX5_fitting 6 (some .boolean), Cond.methodLink RX5 15 Lib.Math.min.name, Cond.methodLink RX5 20 yX5_joined, Cond.static yX5_joined, Cond.code yX5_joined cX5_joined 2 (some .int), Cond.methodLink RX5 23 yX5_sealOf, Cond.methodLink RX2 120 yX4_only, Cond.methodLink RX2 170 yX2_pourTaken, Cond.instanceMethod yX2_pourTaken, Cond.selects RX2 yX2_pourTaken yX2_pourTaken, Cond.code yX2_pourTaken cX2_pourTaken 3 none]
def wsX6_act_r7 : List Cond := [Cond.methodLink RX2 195 yX2_pour, Cond.instanceMethod yX2_pour, Cond.selects RX2 yX2_pour yX2_pour, Cond.code yX2_pour cX2_pour 5 none, Cond.methodLink RX2 202 yX5_raised, Cond.methodLink RX2 205 yX5_joined, Cond.methodLink RX2 173 yX2_closeEpoch, Cond.instanceMethod yX2_closeEpoch, Cond.selects RX2 yX2_closeEpoch yX2_closeEpoch, Cond.code yX2_closeEpoch cX2_closeEpoch 2 (some .int), Cond.methodLink RX2 125 yJ6_bitCount_0f7a4, Cond.static yJ6_bitCount_0f7a4, Cond.initialized RJ6, Cond.code yJ6_bitCount_0f7a4 cJ6_bitCount_0f7a4 1 (some .int), Cond.constant RJ6 265 (1431655765), Cond.constant RJ6 266 (858993459), Cond.constant RJ6 267 (252645135), Cond.methodLink RX2 68 yX2_openedByThose, Cond.instanceMethod yX2_openedByThose, Cond.selects RX2 yX2_openedByThose yX2_openedByThose, Cond.code yX2_openedByThose cX2_openedByThose 5 (some .int), Cond.fieldLink RX2 18 "FreshShares$Orders" "told" "[I", Cond.methodLink RX2 134 yX2_hear, Cond.instanceMethod yX2_hear]
def wsX6_act_r8 : List Cond := [Cond.selects RX2 yX2_hear yX2_hear, Cond.code yX2_hear cX2_hear 2 (some .boolean), Cond.methodLink RX2 147 yX0_tells, Cond.instanceMethod yX0_tells, Cond.selects RX0 yX0_tells yX0_tells, Cond.code yX0_tells cX0_tells 2 (some .int), Cond.fieldLink RX0 18 "FreshShares$Circle" "shares" "[I", Cond.methodLink RX0 71 yX0_bend, Cond.methodLink RX0 75 yX5_plus, Cond.methodLink RX2 140 yX4_lowest, Cond.static yX4_lowest, Cond.code yX4_lowest cX4_lowest 5 (some .int), Cond.methodLink RX4 9 yX4_has, Cond.methodLink RX4 15 yX4_only, Cond.methodLink RX2 143 yX5_weighed, Cond.static yX5_weighed, Cond.code yX5_weighed cX5_weighed 5 (some .int), Cond.methodLink RX5 27 yX4_has, Cond.methodLink RX5 42 yX5_weight, Cond.static yX5_weight, Cond.code yX5_weight cX5_weight 6 (some .int), Cond.methodLink RX5 33 yX5_less, Cond.static yX5_less, Cond.code yX5_less cX5_less 2 (some .int)]
def wsX6_act_r9 : List Cond := [Cond.methodLink RX5 36 yX5_times, Cond.methodLink RX5 39 yX5_inverse, Cond.static yX5_inverse, Cond.code yX5_inverse cX5_inverse 3 (some .int), Cond.methodLink RX5 46 yX5_plus, Cond.methodLink RX2 72 yX2_lose, Cond.instanceMethod yX2_lose, Cond.selects RX2 yX2_lose yX2_lose, Cond.code yX2_lose cX2_lose 2 (some .int), Cond.methodLink RX2 75 yX2_rebuild, Cond.instanceMethod yX2_rebuild, Cond.selects RX2 yX2_rebuild yX2_rebuild, Cond.code yX2_rebuild cX2_rebuild 4 (some .int), Cond.methodLink RX2 78 yX2_move, Cond.instanceMethod yX2_move, Cond.selects RX2 yX2_move yX2_move, Cond.code yX2_move cX2_move 6 (some .int), Cond.methodLink RX2 176 yX5_weight, Cond.methodLink RX2 180 yJ7_fill_53178, Cond.static yJ7_fill_53178, Cond.initialized RJ7, Cond.code yJ7_fill_53178 cJ7_fill_53178 4 none, Cond.methodLink RX2 81 yX2_steal, Cond.instanceMethod yX2_steal]
def wsX6_act_r10 : List Cond := [Cond.selects RX2 yX2_steal yX2_steal, Cond.code yX2_steal cX2_steal 2 (some .int), Cond.methodLink RX2 160 yX1_add, Cond.instanceMethod yX1_add, Cond.selects RX1 yX1_add yX1_add, Cond.code yX1_add cX1_add 4 none, Cond.fieldLink RX1 9 "FreshShares$Loot" "members" "[I", Cond.fieldLink RX1 15 "FreshShares$Loot" "epochs" "[I", Cond.fieldLink RX1 18 "FreshShares$Loot" "shares" "[I", Cond.methodLink RX1 31 yX1_isFull]
def wsX6_act : List Cond := .code yX6_act cX6_act 2 (some .int) :: ((wsX6_act_r1 ++ (wsX6_act_r2 ++ (wsX6_act_r3 ++ (wsX6_act_r4 ++ (wsX6_act_r5 ++ (wsX6_act_r6 ++ (wsX6_act_r7 ++ (wsX6_act_r8 ++ (wsX6_act_r9 ++ wsX6_act_r10))))))))) ++ wsX60 ++ wsX30 ++ wsX00 ++ wsX20 ++ wsX10)
def wsX6_named : List Cond := .code yX6_named cX6_named 2 (some .int) :: ([.fieldLink RX6 27 "FreshShares" "circle" "LFreshShares$Circle;"] ++ wsX60 ++ wsX00)
def wsX6_fits_r1 : List Cond := [Cond.fieldLink RX6 27 "FreshShares" "circle" "LFreshShares$Circle;", Cond.methodLink RX6 38 yX6_isValue, Cond.static yX6_isValue, Cond.initialized RX6, Cond.code yX6_isValue cX6_isValue 1 (some .boolean), Cond.methodLink RX6 80 yX0_isDealt, Cond.instanceMethod yX0_isDealt, Cond.selects RX0 yX0_isDealt yX0_isDealt, Cond.initialized RX0, Cond.code yX0_isDealt cX0_isDealt 1 (some .boolean), Cond.fieldLink RX0 41 "FreshShares$Circle" "epoch" "I", Cond.methodLink RX6 90 yX5_fitting, Cond.static yX5_fitting, Cond.initialized RX5, Cond.code yX5_fitting cX5_fitting 6 (some .boolean), Cond.methodLink RX5 15 Lib.Math.min.name, Cond.static Lib.Math.min.name, Cond.initialized "java/lang/Math", Cond.code Lib.Math.min.name Lib.Math.min.code 2 (some .int), Cond.methodLink RX5 9 yX5_raised, Cond.static yX5_raised, Cond.code yX5_raised cX5_raised 4 (some .int), Cond.methodLink RX5 20 yX5_joined, Cond.static yX5_joined]
def wsX6_fits_r2 : List Cond := [Cond.code yX5_joined cX5_joined 2 (some .int), Cond.methodLink RX5 23 yX5_sealOf, Cond.static yX5_sealOf, Cond.code yX5_sealOf cX5_sealOf 1 (some .int)]
def wsX6_fits : List Cond := .code yX6_fits cX6_fits 3 (some .int) :: ((wsX6_fits_r1 ++ wsX6_fits_r2) ++ wsX60 ++ wsX00)
def wsX6_seal : List Cond := .code yX6_seal cX6_seal 2 (some .int) :: ([.fieldLink RX6 27 "FreshShares" "circle" "LFreshShares$Circle;", .methodLink RX6 80 yX0_isDealt, .instanceMethod yX0_isDealt, .selects RX0 yX0_isDealt yX0_isDealt, .initialized RX0, .code yX0_isDealt cX0_isDealt 1 (some .boolean), .fieldLink RX0 41 "FreshShares$Circle" "epoch" "I"] ++ wsX60 ++ wsX00)
def wsX6_weighs_r1 : List Cond := [Cond.methodLink RX6 38 yX6_isValue, Cond.static yX6_isValue, Cond.initialized RX6, Cond.code yX6_isValue cX6_isValue 1 (some .boolean), Cond.methodLink RX6 34 yX6_isMember, Cond.static yX6_isMember, Cond.code yX6_isMember cX6_isMember 1 (some .boolean), Cond.methodLink RX6 96 yX4_has, Cond.static yX4_has, Cond.initialized RX4, Cond.code yX4_has cX4_has 2 (some .boolean), Cond.methodLink RX6 102 yX5_weight, Cond.static yX5_weight, Cond.initialized RX5, Cond.code yX5_weight cX5_weight 6 (some .int), Cond.methodLink RX5 27 yX4_has, Cond.methodLink RX5 33 yX5_less, Cond.static yX5_less, Cond.code yX5_less cX5_less 2 (some .int), Cond.methodLink RX5 36 yX5_times, Cond.static yX5_times, Cond.code yX5_times cX5_times 2 (some .int), Cond.methodLink RX5 39 yX5_inverse, Cond.static yX5_inverse]
def wsX6_weighs_r2 : List Cond := [Cond.code yX5_inverse cX5_inverse 3 (some .int)]
def wsX6_weighs : List Cond := .code yX6_weighs cX6_weighs 4 (some .int) :: ((wsX6_weighs_r1 ++ wsX6_weighs_r2))
def wsX6_loot : List Cond := .code yX6_loot cX6_loot 4 (some .int) :: ([.fieldLink RX6 27 "FreshShares" "circle" "LFreshShares$Circle;"] ++ wsX60 ++ wsX00 ++ wsX10)
def wsX6_worlds_r1 : List Cond := [Cond.fieldLink RX6 27 "FreshShares" "circle" "LFreshShares$Circle;", Cond.fieldLink RX6 19 "FreshShares" "orders" "LFreshShares$Orders;", Cond.methodLink RX6 38 yX6_isValue, Cond.static yX6_isValue, Cond.initialized RX6, Cond.code yX6_isValue cX6_isValue 1 (some .boolean), Cond.methodLink RX6 124 yX0_wasEpoch, Cond.instanceMethod yX0_wasEpoch, Cond.selects RX0 yX0_wasEpoch yX0_wasEpoch, Cond.initialized RX0, Cond.code yX0_wasEpoch cX0_wasEpoch 2 (some .boolean), Cond.fieldLink RX0 41 "FreshShares$Circle" "epoch" "I", Cond.methodLink RX6 127 yX2_worldsLeft, Cond.instanceMethod yX2_worldsLeft, Cond.selects RX2 yX2_worldsLeft yX2_worldsLeft, Cond.initialized RX2, Cond.code yX2_worldsLeft cX2_worldsLeft 7 (some .int), Cond.fieldLink RX2 12 "FreshShares$Orders" "circle" "LFreshShares$Circle;", Cond.methodLink RX2 219 yX0_thresholdOf, Cond.instanceMethod yX0_thresholdOf, Cond.selects RX0 yX0_thresholdOf yX0_thresholdOf, Cond.code yX0_thresholdOf cX0_thresholdOf 2 (some .int), Cond.fieldLink RX0 24 "FreshShares$Circle" "thresholds" "[I", Cond.methodLink RX0 63 yX0_wasEpoch]
def wsX6_worlds_r2 : List Cond := [Cond.methodLink RX2 213 yX1_victims, Cond.instanceMethod yX1_victims, Cond.selects RX1 yX1_victims yX1_victims, Cond.initialized RX1, Cond.code yX1_victims cX1_victims 4 (some .int), Cond.fieldLink RX1 21 "FreshShares$Loot" "size" "I", Cond.fieldLink RX1 15 "FreshShares$Loot" "epochs" "[I", Cond.fieldLink RX1 9 "FreshShares$Loot" "members" "[I", Cond.methodLink RX1 35 yX4_only, Cond.static yX4_only, Cond.initialized RX4, Cond.code yX4_only cX4_only 1 (some .int), Cond.methodLink RX2 125 yJ6_bitCount_0f7a4, Cond.static yJ6_bitCount_0f7a4, Cond.initialized RJ6, Cond.code yJ6_bitCount_0f7a4 cJ6_bitCount_0f7a4 1 (some .int), Cond.constant RJ6 265 (1431655765), Cond.constant RJ6 266 (858993459), Cond.constant RJ6 267 (252645135), Cond.methodLink RX2 222 yX2_opened, Cond.instanceMethod yX2_opened, Cond.selects RX2 yX2_opened yX2_opened, Cond.code yX2_opened cX2_opened 6 (some .int), Cond.fieldLink RX2 18 "FreshShares$Orders" "told" "[I"]
def wsX6_worlds_r3 : List Cond := [Cond.methodLink RX2 140 yX4_lowest, Cond.static yX4_lowest, Cond.code yX4_lowest cX4_lowest 5 (some .int), Cond.methodLink RX4 9 yX4_has, Cond.static yX4_has, Cond.code yX4_has cX4_has 2 (some .boolean), Cond.methodLink RX4 15 yX4_only, Cond.methodLink RX2 216 yX1_firstShare, Cond.instanceMethod yX1_firstShare, Cond.selects RX1 yX1_firstShare yX1_firstShare, Cond.code yX1_firstShare cX1_firstShare 4 (some .int), Cond.fieldLink RX1 18 "FreshShares$Loot" "shares" "[I", Cond.methodLink RX2 143 yX5_weighed, Cond.static yX5_weighed, Cond.initialized RX5, Cond.code yX5_weighed cX5_weighed 5 (some .int), Cond.methodLink RX5 27 yX4_has, Cond.methodLink RX5 42 yX5_weight, Cond.static yX5_weight, Cond.code yX5_weight cX5_weight 6 (some .int), Cond.methodLink RX5 33 yX5_less, Cond.static yX5_less, Cond.code yX5_less cX5_less 2 (some .int), Cond.methodLink RX5 36 yX5_times]
def wsX6_worlds_r4 : List Cond := [Cond.static yX5_times, Cond.code yX5_times cX5_times 2 (some .int), Cond.methodLink RX5 39 yX5_inverse, Cond.static yX5_inverse, Cond.code yX5_inverse cX5_inverse 3 (some .int), Cond.methodLink RX5 46 yX5_plus, Cond.static yX5_plus, Cond.code yX5_plus cX5_plus 2 (some .int)]
def wsX6_worlds : List Cond := .code yX6_worlds cX6_worlds 3 (some .int) :: ((wsX6_worlds_r1 ++ (wsX6_worlds_r2 ++ (wsX6_worlds_r3 ++ wsX6_worlds_r4))) ++ wsX60 ++ wsX00 ++ wsX20 ++ wsX10)
def wsX6_thief_r1 : List Cond := [Cond.fieldLink RX6 27 "FreshShares" "circle" "LFreshShares$Circle;", Cond.fieldLink RX6 19 "FreshShares" "orders" "LFreshShares$Orders;", Cond.methodLink RX6 80 yX0_isDealt, Cond.instanceMethod yX0_isDealt, Cond.selects RX0 yX0_isDealt yX0_isDealt, Cond.initialized RX0, Cond.code yX0_isDealt cX0_isDealt 1 (some .boolean), Cond.fieldLink RX0 41 "FreshShares$Circle" "epoch" "I", Cond.methodLink RX6 130 yX2_opened, Cond.instanceMethod yX2_opened, Cond.selects RX2 yX2_opened yX2_opened, Cond.initialized RX2, Cond.code yX2_opened cX2_opened 6 (some .int), Cond.fieldLink RX2 12 "FreshShares$Orders" "circle" "LFreshShares$Circle;", Cond.fieldLink RX2 18 "FreshShares$Orders" "told" "[I", Cond.methodLink RX2 213 yX1_victims, Cond.instanceMethod yX1_victims, Cond.selects RX1 yX1_victims yX1_victims, Cond.initialized RX1, Cond.code yX1_victims cX1_victims 4 (some .int), Cond.fieldLink RX1 21 "FreshShares$Loot" "size" "I", Cond.fieldLink RX1 15 "FreshShares$Loot" "epochs" "[I", Cond.fieldLink RX1 9 "FreshShares$Loot" "members" "[I", Cond.methodLink RX1 35 yX4_only]
def wsX6_thief_r2 : List Cond := [Cond.static yX4_only, Cond.initialized RX4, Cond.code yX4_only cX4_only 1 (some .int), Cond.methodLink RX2 125 yJ6_bitCount_0f7a4, Cond.static yJ6_bitCount_0f7a4, Cond.initialized RJ6, Cond.code yJ6_bitCount_0f7a4 cJ6_bitCount_0f7a4 1 (some .int), Cond.constant RJ6 265 (1431655765), Cond.constant RJ6 266 (858993459), Cond.constant RJ6 267 (252645135), Cond.methodLink RX2 140 yX4_lowest, Cond.static yX4_lowest, Cond.code yX4_lowest cX4_lowest 5 (some .int), Cond.methodLink RX4 9 yX4_has, Cond.static yX4_has, Cond.code yX4_has cX4_has 2 (some .boolean), Cond.methodLink RX4 15 yX4_only, Cond.methodLink RX2 216 yX1_firstShare, Cond.instanceMethod yX1_firstShare, Cond.selects RX1 yX1_firstShare yX1_firstShare, Cond.code yX1_firstShare cX1_firstShare 4 (some .int), Cond.fieldLink RX1 18 "FreshShares$Loot" "shares" "[I", Cond.methodLink RX2 143 yX5_weighed, Cond.static yX5_weighed]
def wsX6_thief_r3 : List Cond := [Cond.initialized RX5, Cond.code yX5_weighed cX5_weighed 5 (some .int), Cond.methodLink RX5 27 yX4_has, Cond.methodLink RX5 42 yX5_weight, Cond.static yX5_weight, Cond.code yX5_weight cX5_weight 6 (some .int), Cond.methodLink RX5 33 yX5_less, Cond.static yX5_less, Cond.code yX5_less cX5_less 2 (some .int), Cond.methodLink RX5 36 yX5_times, Cond.static yX5_times, Cond.code yX5_times cX5_times 2 (some .int), Cond.methodLink RX5 39 yX5_inverse, Cond.static yX5_inverse, Cond.code yX5_inverse cX5_inverse 3 (some .int), Cond.methodLink RX5 46 yX5_plus, Cond.static yX5_plus, Cond.code yX5_plus cX5_plus 2 (some .int), Cond.methodLink RX6 133 yX0_firstLostEpoch, Cond.instanceMethod yX0_firstLostEpoch, Cond.selects RX0 yX0_firstLostEpoch yX0_firstLostEpoch, Cond.code yX0_firstLostEpoch cX0_firstLostEpoch 3 (some .int), Cond.fieldLink RX0 30 "FreshShares$Circle" "stolen" "LFreshShares$Loot;", Cond.methodLink RX0 86 yX1_victims]
def wsX6_thief_r4 : List Cond := [Cond.methodLink RX0 90 yJ6_bitCount_0f7a4, Cond.methodLink RX0 95 yX0_thresholdOf, Cond.instanceMethod yX0_thresholdOf, Cond.selects RX0 yX0_thresholdOf yX0_thresholdOf, Cond.code yX0_thresholdOf cX0_thresholdOf 2 (some .int), Cond.fieldLink RX0 24 "FreshShares$Circle" "thresholds" "[I", Cond.methodLink RX0 63 yX0_wasEpoch, Cond.instanceMethod yX0_wasEpoch, Cond.selects RX0 yX0_wasEpoch yX0_wasEpoch, Cond.code yX0_wasEpoch cX0_wasEpoch 2 (some .boolean), Cond.methodLink RX6 136 yX0_thresholdOf]
def wsX6_thief : List Cond := .code yX6_thief cX6_thief 3 (some .int) :: ((wsX6_thief_r1 ++ (wsX6_thief_r2 ++ (wsX6_thief_r3 ++ wsX6_thief_r4))) ++ wsX60 ++ wsX00 ++ wsX20 ++ wsX10)
def wsX6_image_r1 : List Cond := [Cond.fieldLink RX6 30 "FreshShares" "images" "[LFreshShares$Circle;", Cond.classLink RX6 28 RX0, Cond.instantiable RX0 12, Cond.initialized RX0, Cond.fieldLink RX6 27 "FreshShares" "circle" "LFreshShares$Circle;", Cond.methodLink RX6 139 yX0_init, Cond.instanceMethod yX0_init, Cond.code yX0_init cX0_init 2 none, Cond.methodLink RX0 3 objectInit, Cond.instanceMethod objectInit, Cond.code objectInit ⟨#[0xb1]⟩ 1 none, Cond.arrayClass .int, Cond.fieldLink RX0 9 "FreshShares$Circle" "rows" "[I", Cond.fieldLink RX0 15 "FreshShares$Circle" "bends" "[I", Cond.fieldLink RX0 18 "FreshShares$Circle" "shares" "[I", Cond.fieldLink RX0 21 "FreshShares$Circle" "seals" "[I", Cond.fieldLink RX0 24 "FreshShares$Circle" "thresholds" "[I", Cond.classLink RX0 27 RX1, Cond.instantiable RX1 4, Cond.initialized RX1, Cond.fieldLink RX0 30 "FreshShares$Circle" "stolen" "LFreshShares$Loot;", Cond.fieldLink RX0 34 "FreshShares$Circle" "holders" "I", Cond.fieldLink RX0 38 "FreshShares$Circle" "threshold" "I", Cond.fieldLink RX0 41 "FreshShares$Circle" "epoch" "I"]
def wsX6_image_r2 : List Cond := [Cond.fieldLink RX0 44 "FreshShares$Circle" "liars" "I", Cond.fieldLink RX0 47 "FreshShares$Circle" "struck" "I", Cond.fieldLink RX0 50 "FreshShares$Circle" "ordersDone" "I", Cond.methodLink RX0 29 yX1_init, Cond.instanceMethod yX1_init, Cond.code yX1_init cX1_init 1 none, Cond.methodLink RX1 3 objectInit, Cond.fieldLink RX1 9 "FreshShares$Loot" "members" "[I", Cond.fieldLink RX1 15 "FreshShares$Loot" "epochs" "[I", Cond.fieldLink RX1 18 "FreshShares$Loot" "shares" "[I", Cond.fieldLink RX1 21 "FreshShares$Loot" "size" "I", Cond.methodLink RX6 140 yX0_copyFrom, Cond.instanceMethod yX0_copyFrom, Cond.selects RX0 yX0_copyFrom yX0_copyFrom, Cond.code yX0_copyFrom cX0_copyFrom 2 none, Cond.methodLink RX0 53 arraycopyName, Cond.native arraycopyName, Cond.static arraycopyName, Cond.initialized "java/lang/System", Cond.methodLink RX0 59 yX1_copyFrom, Cond.instanceMethod yX1_copyFrom, Cond.selects RX1 yX1_copyFrom yX1_copyFrom, Cond.code yX1_copyFrom cX1_copyFrom 2 none, Cond.methodLink RX1 25 arraycopyName]
def wsX6_image : List Cond := .code yX6_image cX6_image 3 (some .int) :: ((wsX6_image_r1 ++ wsX6_image_r2) ++ wsX60 ++ wsX00 ++ wsX10)
def wsX6_restore_r1 : List Cond := [Cond.fieldLink RX6 30 "FreshShares" "images" "[LFreshShares$Circle;", Cond.fieldLink RX6 27 "FreshShares" "circle" "LFreshShares$Circle;", Cond.methodLink RX6 140 yX0_copyFrom, Cond.instanceMethod yX0_copyFrom, Cond.selects RX0 yX0_copyFrom yX0_copyFrom, Cond.initialized RX0, Cond.code yX0_copyFrom cX0_copyFrom 2 none, Cond.fieldLink RX0 9 "FreshShares$Circle" "rows" "[I", Cond.methodLink RX0 53 arraycopyName, Cond.native arraycopyName, Cond.static arraycopyName, Cond.initialized "java/lang/System", Cond.fieldLink RX0 15 "FreshShares$Circle" "bends" "[I", Cond.fieldLink RX0 18 "FreshShares$Circle" "shares" "[I", Cond.fieldLink RX0 21 "FreshShares$Circle" "seals" "[I", Cond.fieldLink RX0 24 "FreshShares$Circle" "thresholds" "[I", Cond.fieldLink RX0 30 "FreshShares$Circle" "stolen" "LFreshShares$Loot;", Cond.fieldLink RX0 34 "FreshShares$Circle" "holders" "I", Cond.fieldLink RX0 38 "FreshShares$Circle" "threshold" "I", Cond.fieldLink RX0 41 "FreshShares$Circle" "epoch" "I", Cond.fieldLink RX0 44 "FreshShares$Circle" "liars" "I", Cond.fieldLink RX0 47 "FreshShares$Circle" "struck" "I", Cond.fieldLink RX0 50 "FreshShares$Circle" "ordersDone" "I", Cond.methodLink RX0 59 yX1_copyFrom]
def wsX6_restore_r2 : List Cond := [Cond.instanceMethod yX1_copyFrom, Cond.selects RX1 yX1_copyFrom yX1_copyFrom, Cond.initialized RX1, Cond.code yX1_copyFrom cX1_copyFrom 2 none, Cond.fieldLink RX1 9 "FreshShares$Loot" "members" "[I", Cond.methodLink RX1 25 arraycopyName, Cond.fieldLink RX1 15 "FreshShares$Loot" "epochs" "[I", Cond.fieldLink RX1 18 "FreshShares$Loot" "shares" "[I", Cond.fieldLink RX1 21 "FreshShares$Loot" "size" "I"]
def wsX6_restore : List Cond := .code yX6_restore cX6_restore 3 (some .int) :: ((wsX6_restore_r1 ++ wsX6_restore_r2) ++ wsX60 ++ wsX00 ++ wsX10)
def wsX6_keptImages : List Cond := .code yX6_keptImages cX6_keptImages 3 (some .int) :: ([.fieldLink RX6 30 "FreshShares" "images" "[LFreshShares$Circle;", .methodLink RX6 158 yX4_only, .static yX4_only, .initialized RX4, .code yX4_only cX4_only 1 (some .int)] ++ wsX60)
def wsX6_count_r1 : List Cond := [Cond.fieldLink RX6 27 "FreshShares" "circle" "LFreshShares$Circle;", Cond.fieldLink RX6 10 "FreshShares" "script" "LFreshShares$Script;", Cond.methodLink RX6 80 yX0_isDealt, Cond.instanceMethod yX0_isDealt, Cond.selects RX0 yX0_isDealt yX0_isDealt, Cond.initialized RX0, Cond.code yX0_isDealt cX0_isDealt 1 (some .boolean), Cond.fieldLink RX0 41 "FreshShares$Circle" "epoch" "I", Cond.methodLink RX6 150 yJ6_bitCount_0f7a4, Cond.static yJ6_bitCount_0f7a4, Cond.initialized RJ6, Cond.code yJ6_bitCount_0f7a4 cJ6_bitCount_0f7a4 1 (some .int), Cond.constant RJ6 265 (1431655765), Cond.constant RJ6 266 (858993459), Cond.constant RJ6 267 (252645135), Cond.methodLink RX6 155 yX6_keptImages, Cond.instanceMethod yX6_keptImages, Cond.selects RX6 yX6_keptImages yX6_keptImages, Cond.initialized RX6, Cond.code yX6_keptImages cX6_keptImages 3 (some .int), Cond.fieldLink RX6 30 "FreshShares" "images" "[LFreshShares$Circle;", Cond.methodLink RX6 158 yX4_only, Cond.static yX4_only, Cond.initialized RX4]
def wsX6_count_r2 : List Cond := [Cond.code yX4_only cX4_only 1 (some .int), Cond.methodLink RX6 124 yX0_wasEpoch, Cond.instanceMethod yX0_wasEpoch, Cond.selects RX0 yX0_wasEpoch yX0_wasEpoch, Cond.code yX0_wasEpoch cX0_wasEpoch 2 (some .boolean), Cond.methodLink RX6 136 yX0_thresholdOf, Cond.instanceMethod yX0_thresholdOf, Cond.selects RX0 yX0_thresholdOf yX0_thresholdOf, Cond.code yX0_thresholdOf cX0_thresholdOf 2 (some .int), Cond.fieldLink RX0 24 "FreshShares$Circle" "thresholds" "[I", Cond.methodLink RX0 63 yX0_wasEpoch]
def wsX6_count : List Cond := .code yX6_count cX6_count 2 (some .int) :: ((wsX6_count_r1 ++ wsX6_count_r2) ++ wsX60 ++ wsX00 ++ wsX10 ++ wsX30)
def wsX7_bentAt : List Cond := .code yX7_bentAt cX7_bentAt 2 (some .int) :: ([])
def wsX7_init : List Cond := .code yX7_init cX7_init 2 none :: ([.methodLink RX7 1 objectInit, .instanceMethod objectInit, .code objectInit ⟨#[0xb1]⟩ 1 none, .arrayClass .int, .fieldLink RX7 7 "FreshSharesModel" "state" "[I", .fieldLink RX7 13 "FreshSharesModel" "text" "[I", .fieldLink RX7 16 "FreshSharesModel" "poly" "[I", .fieldLink RX7 19 "FreshSharesModel" "added" "[I", .fieldLink RX7 22 "FreshSharesModel" "sealed" "[I", .fieldLink RX7 25 "FreshSharesModel" "images" "[I", .arrayClass .boolean, .fieldLink RX7 28 "FreshSharesModel" "isKept" "[Z", .methodLink RX7 32 yX7_bentAt, .static yX7_bentAt, .initialized RX7, .code yX7_bentAt cX7_bentAt 2 (some .int)] ++ wsX70)
def wsX7_in : List Cond := .code yX7_in cX7_in 3 (some .boolean) :: ([])
def wsX7_isMember : List Cond := .code yX7_isMember cX7_isMember 1 (some .boolean) :: ([.methodLink RX7 36 yX7_in, .static yX7_in, .initialized RX7, .code yX7_in cX7_in 3 (some .boolean)])
def wsX7_isValue : List Cond := .code yX7_isValue cX7_isValue 1 (some .boolean) :: ([.methodLink RX7 36 yX7_in, .static yX7_in, .initialized RX7, .code yX7_in cX7_in 3 (some .boolean)])
def wsX7_bentOf : List Cond := .code yX7_bentOf cX7_bentOf 3 (some .int) :: ([.fieldLink RX7 7 "FreshSharesModel" "state" "[I", .methodLink RX7 32 yX7_bentAt, .static yX7_bentAt, .initialized RX7, .code yX7_bentAt cX7_bentAt 2 (some .int)] ++ wsX70)
def wsX7_has : List Cond := .code yX7_has cX7_has 2 (some .boolean) :: ([])
def wsX7_isDealt : List Cond := .code yX7_isDealt cX7_isDealt 1 (some .boolean) :: ([.fieldLink RX7 7 "FreshSharesModel" "state" "[I"] ++ wsX70)
def wsX7_mod : List Cond := .code yX7_mod cX7_mod 2 (some .int) :: ([])
def wsX7_power : List Cond := .code yX7_power cX7_power 5 (some .int) :: ([])
def wsX7_sealOf : List Cond := .code yX7_sealOf cX7_sealOf 1 (some .int) :: ([.methodLink RX7 40 yX7_power, .static yX7_power, .initialized RX7, .code yX7_power cX7_power 5 (some .int)])
def wsX7_row : List Cond := .code yX7_row cX7_row 5 (some .int) :: ([.fieldLink RX7 7 "FreshSharesModel" "state" "[I", .methodLink RX7 36 yX7_in, .static yX7_in, .initialized RX7, .code yX7_in cX7_in 3 (some .boolean), .methodLink RX7 44 yX7_isValue, .static yX7_isValue, .code yX7_isValue cX7_isValue 1 (some .boolean)] ++ wsX70)
def wsX7_bent : List Cond := .code yX7_bent cX7_bent 5 (some .int) :: ([.fieldLink RX7 7 "FreshSharesModel" "state" "[I", .methodLink RX7 48 yX7_isMember, .static yX7_isMember, .initialized RX7, .code yX7_isMember cX7_isMember 1 (some .boolean), .methodLink RX7 36 yX7_in, .static yX7_in, .code yX7_in cX7_in 3 (some .boolean), .methodLink RX7 51 yX7_bentOf, .instanceMethod yX7_bentOf, .selects RX7 yX7_bentOf yX7_bentOf, .code yX7_bentOf cX7_bentOf 3 (some .int), .methodLink RX7 32 yX7_bentAt, .static yX7_bentAt, .code yX7_bentAt cX7_bentAt 2 (some .int)] ++ wsX70)
def wsX7_hasShare : List Cond := .code yX7_hasShare cX7_hasShare 2 (some .boolean) :: ([.fieldLink RX7 7 "FreshSharesModel" "state" "[I"] ++ wsX70)
def wsX7_told : List Cond := .code yX7_told cX7_told 2 (some .int) :: ([.fieldLink RX7 7 "FreshSharesModel" "state" "[I", .methodLink RX7 51 yX7_bentOf, .instanceMethod yX7_bentOf, .selects RX7 yX7_bentOf yX7_bentOf, .initialized RX7, .code yX7_bentOf cX7_bentOf 3 (some .int), .methodLink RX7 32 yX7_bentAt, .static yX7_bentAt, .code yX7_bentAt cX7_bentAt 2 (some .int), .methodLink RX7 54 yX7_mod, .static yX7_mod, .code yX7_mod cX7_mod 2 (some .int)] ++ wsX70)
def wsX7_isFit : List Cond := .code yX7_isFit cX7_isFit 5 (some .boolean) :: ([.fieldLink RX7 7 "FreshSharesModel" "state" "[I", .methodLink RX7 40 yX7_power, .static yX7_power, .initialized RX7, .code yX7_power cX7_power 5 (some .int), .methodLink RX7 58 yX7_sealOf, .static yX7_sealOf, .code yX7_sealOf cX7_sealOf 1 (some .int)] ++ wsX70)
def wsX7_member_r1 : List Cond := [Cond.fieldLink RX7 7 "FreshSharesModel" "state" "[I", Cond.methodLink RX7 48 yX7_isMember, Cond.static yX7_isMember, Cond.initialized RX7, Cond.code yX7_isMember cX7_isMember 1 (some .boolean), Cond.methodLink RX7 36 yX7_in, Cond.static yX7_in, Cond.code yX7_in cX7_in 3 (some .boolean), Cond.methodLink RX7 51 yX7_bentOf, Cond.instanceMethod yX7_bentOf, Cond.selects RX7 yX7_bentOf yX7_bentOf, Cond.code yX7_bentOf cX7_bentOf 3 (some .int), Cond.methodLink RX7 32 yX7_bentAt, Cond.static yX7_bentAt, Cond.code yX7_bentAt cX7_bentAt 2 (some .int), Cond.methodLink RX7 61 yX7_hasShare, Cond.instanceMethod yX7_hasShare, Cond.selects RX7 yX7_hasShare yX7_hasShare, Cond.code yX7_hasShare cX7_hasShare 2 (some .boolean), Cond.methodLink RX7 64 yX7_told, Cond.instanceMethod yX7_told, Cond.selects RX7 yX7_told yX7_told, Cond.code yX7_told cX7_told 2 (some .int), Cond.methodLink RX7 54 yX7_mod]
def wsX7_member_r2 : List Cond := [Cond.static yX7_mod, Cond.code yX7_mod cX7_mod 2 (some .int), Cond.methodLink RX7 67 yX7_isFit, Cond.instanceMethod yX7_isFit, Cond.selects RX7 yX7_isFit yX7_isFit, Cond.code yX7_isFit cX7_isFit 5 (some .boolean), Cond.methodLink RX7 40 yX7_power, Cond.static yX7_power, Cond.code yX7_power cX7_power 5 (some .int), Cond.methodLink RX7 58 yX7_sealOf, Cond.static yX7_sealOf, Cond.code yX7_sealOf cX7_sealOf 1 (some .int)]
def wsX7_member : List Cond := .code yX7_member cX7_member 3 (some .int) :: ((wsX7_member_r1 ++ wsX7_member_r2) ++ wsX70)
def wsX7_say : List Cond := .code yX7_say cX7_say 2 (some .int) :: ([.fieldLink RX7 71 "FreshSharesModel" "signs" "I", .fieldLink RX7 13 "FreshSharesModel" "text" "[I", .methodLink RX7 36 yX7_in, .static yX7_in, .initialized RX7, .code yX7_in cX7_in 3 (some .boolean)] ++ wsX70)
def wsX7_wipe : List Cond := .code yX7_wipe cX7_wipe 2 (some .int) :: ([.fieldLink RX7 71 "FreshSharesModel" "signs" "I"] ++ wsX70)
def wsX7_figure : List Cond := .code yX7_figure cX7_figure 2 (some .int) :: ([.fieldLink RX7 13 "FreshSharesModel" "text" "[I"] ++ wsX70)
def wsX7_leastOf : List Cond := .code yX7_leastOf cX7_leastOf 1 (some .int) :: ([])
def wsX7_canStand : List Cond := .code yX7_canStand cX7_canStand 3 (some .boolean) :: ([.fieldLink RX7 13 "FreshSharesModel" "text" "[I", .methodLink RX7 75 yX7_figure, .instanceMethod yX7_figure, .selects RX7 yX7_figure yX7_figure, .initialized RX7, .code yX7_figure cX7_figure 2 (some .int), .methodLink RX7 36 yX7_in, .static yX7_in, .code yX7_in cX7_in 3 (some .boolean), .methodLink RX7 48 yX7_isMember, .static yX7_isMember, .code yX7_isMember cX7_isMember 1 (some .boolean)] ++ wsX70)
def wsX7_faultNow : List Cond := .code yX7_faultNow cX7_faultNow 2 (some .int) :: ([.fieldLink RX7 71 "FreshSharesModel" "signs" "I", .fieldLink RX7 13 "FreshSharesModel" "text" "[I", .methodLink RX7 78 yX7_leastOf, .static yX7_leastOf, .initialized RX7, .code yX7_leastOf cX7_leastOf 1 (some .int), .methodLink RX7 81 yX7_canStand, .instanceMethod yX7_canStand, .selects RX7 yX7_canStand yX7_canStand, .code yX7_canStand cX7_canStand 3 (some .boolean), .methodLink RX7 75 yX7_figure, .instanceMethod yX7_figure, .selects RX7 yX7_figure yX7_figure, .code yX7_figure cX7_figure 2 (some .int), .methodLink RX7 36 yX7_in, .static yX7_in, .code yX7_in cX7_in 3 (some .boolean), .methodLink RX7 48 yX7_isMember, .static yX7_isMember, .code yX7_isMember cX7_isMember 1 (some .boolean)] ++ wsX70)
def wsX7_fault : List Cond := .code yX7_fault cX7_fault 1 (some .int) :: ([.methodLink RX7 84 yX7_faultNow, .instanceMethod yX7_faultNow, .selects RX7 yX7_faultNow yX7_faultNow, .initialized RX7, .code yX7_faultNow cX7_faultNow 2 (some .int), .fieldLink RX7 71 "FreshSharesModel" "signs" "I", .fieldLink RX7 13 "FreshSharesModel" "text" "[I", .methodLink RX7 78 yX7_leastOf, .static yX7_leastOf, .code yX7_leastOf cX7_leastOf 1 (some .int), .methodLink RX7 81 yX7_canStand, .instanceMethod yX7_canStand, .selects RX7 yX7_canStand yX7_canStand, .code yX7_canStand cX7_canStand 3 (some .boolean), .methodLink RX7 75 yX7_figure, .instanceMethod yX7_figure, .selects RX7 yX7_figure yX7_figure, .code yX7_figure cX7_figure 2 (some .int), .methodLink RX7 36 yX7_in, .static yX7_in, .code yX7_in cX7_in 3 (some .boolean), .methodLink RX7 48 yX7_isMember, .static yX7_isMember, .code yX7_isMember cX7_isMember 1 (some .boolean)] ++ wsX70)
def wsX7_inverse : List Cond := .code yX7_inverse cX7_inverse 1 (some .int) :: ([.methodLink RX7 54 yX7_mod, .static yX7_mod, .initialized RX7, .code yX7_mod cX7_mod 2 (some .int), .methodLink RX7 40 yX7_power, .static yX7_power, .code yX7_power cX7_power 5 (some .int)])
def wsX7_weight : List Cond := .code yX7_weight cX7_weight 5 (some .int) :: ([.methodLink RX7 88 yX7_has, .static yX7_has, .initialized RX7, .code yX7_has cX7_has 2 (some .boolean), .methodLink RX7 54 yX7_mod, .static yX7_mod, .code yX7_mod cX7_mod 2 (some .int), .methodLink RX7 91 yX7_inverse, .static yX7_inverse, .code yX7_inverse cX7_inverse 1 (some .int), .methodLink RX7 40 yX7_power, .static yX7_power, .code yX7_power cX7_power 5 (some .int)])
def wsX7_weighs : List Cond := .code yX7_weighs cX7_weighs 4 (some .int) :: ([.methodLink RX7 36 yX7_in, .static yX7_in, .initialized RX7, .code yX7_in cX7_in 3 (some .boolean), .methodLink RX7 48 yX7_isMember, .static yX7_isMember, .code yX7_isMember cX7_isMember 1 (some .boolean), .methodLink RX7 88 yX7_has, .static yX7_has, .code yX7_has cX7_has 2 (some .boolean), .methodLink RX7 94 yX7_weight, .static yX7_weight, .code yX7_weight cX7_weight 5 (some .int), .methodLink RX7 54 yX7_mod, .static yX7_mod, .code yX7_mod cX7_mod 2 (some .int), .methodLink RX7 91 yX7_inverse, .static yX7_inverse, .code yX7_inverse cX7_inverse 1 (some .int), .methodLink RX7 40 yX7_power, .static yX7_power, .code yX7_power cX7_power 5 (some .int)])
def wsX7_polyAt : List Cond := .code yX7_polyAt cX7_polyAt 4 (some .int) :: ([.fieldLink RX7 97 "FreshSharesModel" "size" "I", .fieldLink RX7 16 "FreshSharesModel" "poly" "[I", .methodLink RX7 40 yX7_power, .static yX7_power, .initialized RX7, .code yX7_power cX7_power 5 (some .int)] ++ wsX70)
def wsX7_fitsPoly : List Cond := .code yX7_fitsPoly cX7_fitsPoly 5 (some .boolean) :: ([.fieldLink RX7 97 "FreshSharesModel" "size" "I", .fieldLink RX7 16 "FreshSharesModel" "poly" "[I", .methodLink RX7 58 yX7_sealOf, .static yX7_sealOf, .initialized RX7, .code yX7_sealOf cX7_sealOf 1 (some .int), .methodLink RX7 40 yX7_power, .static yX7_power, .code yX7_power cX7_power 5 (some .int)] ++ wsX70)
def wsX7_layPoly : List Cond := .code yX7_layPoly cX7_layPoly 5 none :: ([.fieldLink RX7 97 "FreshSharesModel" "size" "I", .fieldLink RX7 16 "FreshSharesModel" "poly" "[I", .fieldLink RX7 7 "FreshSharesModel" "state" "[I"] ++ wsX70)
def wsX7_having : List Cond := .code yX7_having cX7_having 3 (some .int) :: ([.methodLink RX7 61 yX7_hasShare, .instanceMethod yX7_hasShare, .selects RX7 yX7_hasShare yX7_hasShare, .initialized RX7, .code yX7_hasShare cX7_hasShare 2 (some .boolean), .fieldLink RX7 7 "FreshSharesModel" "state" "[I"] ++ wsX70)
def wsX7_bits : List Cond := .code yX7_bits cX7_bits 3 (some .int) :: ([])
def wsX7_isStruck_r1 : List Cond := [Cond.fieldLink RX7 7 "FreshSharesModel" "state" "[I", Cond.methodLink RX7 61 yX7_hasShare, Cond.instanceMethod yX7_hasShare, Cond.selects RX7 yX7_hasShare yX7_hasShare, Cond.initialized RX7, Cond.code yX7_hasShare cX7_hasShare 2 (some .boolean), Cond.methodLink RX7 100 yX7_polyAt, Cond.instanceMethod yX7_polyAt, Cond.selects RX7 yX7_polyAt yX7_polyAt, Cond.code yX7_polyAt cX7_polyAt 4 (some .int), Cond.fieldLink RX7 97 "FreshSharesModel" "size" "I", Cond.fieldLink RX7 16 "FreshSharesModel" "poly" "[I", Cond.methodLink RX7 40 yX7_power, Cond.static yX7_power, Cond.code yX7_power cX7_power 5 (some .int), Cond.methodLink RX7 51 yX7_bentOf, Cond.instanceMethod yX7_bentOf, Cond.selects RX7 yX7_bentOf yX7_bentOf, Cond.code yX7_bentOf cX7_bentOf 3 (some .int), Cond.methodLink RX7 32 yX7_bentAt, Cond.static yX7_bentAt, Cond.code yX7_bentAt cX7_bentAt 2 (some .int), Cond.methodLink RX7 54 yX7_mod, Cond.static yX7_mod]
def wsX7_isStruck_r2 : List Cond := [Cond.code yX7_mod cX7_mod 2 (some .int), Cond.methodLink RX7 103 yX7_fitsPoly, Cond.instanceMethod yX7_fitsPoly, Cond.selects RX7 yX7_fitsPoly yX7_fitsPoly, Cond.code yX7_fitsPoly cX7_fitsPoly 5 (some .boolean), Cond.methodLink RX7 58 yX7_sealOf, Cond.static yX7_sealOf, Cond.code yX7_sealOf cX7_sealOf 1 (some .int)]
def wsX7_isStruck : List Cond := .code yX7_isStruck cX7_isStruck 8 (some .boolean) :: ((wsX7_isStruck_r1 ++ wsX7_isStruck_r2) ++ wsX70)
def wsX7_strike : List Cond := .code yX7_strike cX7_strike 2 none :: ([.fieldLink RX7 7 "FreshSharesModel" "state" "[I", .methodLink RX7 88 yX7_has, .static yX7_has, .initialized RX7, .code yX7_has cX7_has 2 (some .boolean)] ++ wsX70)
def wsX7_nextEpoch : List Cond := .code yX7_nextEpoch cX7_nextEpoch 1 none :: ([.fieldLink RX7 7 "FreshSharesModel" "state" "[I"] ++ wsX70)
def wsX7_deal_r1 : List Cond := [Cond.fieldLink RX7 7 "FreshSharesModel" "state" "[I", Cond.fieldLink RX7 16 "FreshSharesModel" "poly" "[I", Cond.methodLink RX7 106 yX7_layPoly, Cond.instanceMethod yX7_layPoly, Cond.selects RX7 yX7_layPoly yX7_layPoly, Cond.initialized RX7, Cond.code yX7_layPoly cX7_layPoly 5 none, Cond.fieldLink RX7 97 "FreshSharesModel" "size" "I", Cond.methodLink RX7 58 yX7_sealOf, Cond.static yX7_sealOf, Cond.code yX7_sealOf cX7_sealOf 1 (some .int), Cond.methodLink RX7 40 yX7_power, Cond.static yX7_power, Cond.code yX7_power cX7_power 5 (some .int), Cond.methodLink RX7 100 yX7_polyAt, Cond.instanceMethod yX7_polyAt, Cond.selects RX7 yX7_polyAt yX7_polyAt, Cond.code yX7_polyAt cX7_polyAt 4 (some .int), Cond.methodLink RX7 110 yX7_isDealt, Cond.instanceMethod yX7_isDealt, Cond.selects RX7 yX7_isDealt yX7_isDealt, Cond.code yX7_isDealt cX7_isDealt 1 (some .boolean), Cond.methodLink RX7 114 yX7_nextEpoch, Cond.instanceMethod yX7_nextEpoch]
def wsX7_deal_r2 : List Cond := [Cond.selects RX7 yX7_nextEpoch yX7_nextEpoch, Cond.code yX7_nextEpoch cX7_nextEpoch 1 none]
def wsX7_deal : List Cond := .code yX7_deal cX7_deal 3 (some .int) :: ((wsX7_deal_r1 ++ wsX7_deal_r2) ++ wsX70)
def wsX7_forget : List Cond := .code yX7_forget cX7_forget 2 (some .int) :: ([.fieldLink RX7 7 "FreshSharesModel" "state" "[I", .methodLink RX7 117 yX7_having, .instanceMethod yX7_having, .selects RX7 yX7_having yX7_having, .initialized RX7, .code yX7_having cX7_having 3 (some .int), .methodLink RX7 61 yX7_hasShare, .instanceMethod yX7_hasShare, .selects RX7 yX7_hasShare yX7_hasShare, .code yX7_hasShare cX7_hasShare 2 (some .boolean), .methodLink RX7 120 yX7_bits, .static yX7_bits, .code yX7_bits cX7_bits 3 (some .int)] ++ wsX70)
def wsX7_honest_r1 : List Cond := [Cond.fieldLink RX7 71 "FreshSharesModel" "signs" "I", Cond.fieldLink RX7 7 "FreshSharesModel" "state" "[I", Cond.methodLink RX7 75 yX7_figure, Cond.instanceMethod yX7_figure, Cond.selects RX7 yX7_figure yX7_figure, Cond.initialized RX7, Cond.code yX7_figure cX7_figure 2 (some .int), Cond.fieldLink RX7 13 "FreshSharesModel" "text" "[I", Cond.methodLink RX7 61 yX7_hasShare, Cond.instanceMethod yX7_hasShare, Cond.selects RX7 yX7_hasShare yX7_hasShare, Cond.code yX7_hasShare cX7_hasShare 2 (some .boolean), Cond.methodLink RX7 64 yX7_told, Cond.instanceMethod yX7_told, Cond.selects RX7 yX7_told yX7_told, Cond.code yX7_told cX7_told 2 (some .int), Cond.methodLink RX7 51 yX7_bentOf, Cond.instanceMethod yX7_bentOf, Cond.selects RX7 yX7_bentOf yX7_bentOf, Cond.code yX7_bentOf cX7_bentOf 3 (some .int), Cond.methodLink RX7 32 yX7_bentAt, Cond.static yX7_bentAt, Cond.code yX7_bentAt cX7_bentAt 2 (some .int), Cond.methodLink RX7 54 yX7_mod]
def wsX7_honest_r2 : List Cond := [Cond.static yX7_mod, Cond.code yX7_mod cX7_mod 2 (some .int), Cond.methodLink RX7 67 yX7_isFit, Cond.instanceMethod yX7_isFit, Cond.selects RX7 yX7_isFit yX7_isFit, Cond.code yX7_isFit cX7_isFit 5 (some .boolean), Cond.methodLink RX7 40 yX7_power, Cond.static yX7_power, Cond.code yX7_power cX7_power 5 (some .int), Cond.methodLink RX7 58 yX7_sealOf, Cond.static yX7_sealOf, Cond.code yX7_sealOf cX7_sealOf 1 (some .int)]
def wsX7_honest : List Cond := .code yX7_honest cX7_honest 6 (some .int) :: ((wsX7_honest_r1 ++ wsX7_honest_r2) ++ wsX70)
def wsX7_firstOf : List Cond := .code yX7_firstOf cX7_firstOf 4 (some .int) :: ([.methodLink RX7 88 yX7_has, .static yX7_has, .initialized RX7, .code yX7_has cX7_has 2 (some .boolean), .methodLink RX7 120 yX7_bits, .static yX7_bits, .code yX7_bits cX7_bits 3 (some .int)])
def wsX7_together_r1 : List Cond := [Cond.methodLink RX7 88 yX7_has, Cond.static yX7_has, Cond.initialized RX7, Cond.code yX7_has cX7_has 2 (some .boolean), Cond.methodLink RX7 64 yX7_told, Cond.instanceMethod yX7_told, Cond.selects RX7 yX7_told yX7_told, Cond.code yX7_told cX7_told 2 (some .int), Cond.fieldLink RX7 7 "FreshSharesModel" "state" "[I", Cond.methodLink RX7 51 yX7_bentOf, Cond.instanceMethod yX7_bentOf, Cond.selects RX7 yX7_bentOf yX7_bentOf, Cond.code yX7_bentOf cX7_bentOf 3 (some .int), Cond.methodLink RX7 32 yX7_bentAt, Cond.static yX7_bentAt, Cond.code yX7_bentAt cX7_bentAt 2 (some .int), Cond.methodLink RX7 54 yX7_mod, Cond.static yX7_mod, Cond.code yX7_mod cX7_mod 2 (some .int), Cond.methodLink RX7 94 yX7_weight, Cond.static yX7_weight, Cond.code yX7_weight cX7_weight 5 (some .int), Cond.methodLink RX7 91 yX7_inverse, Cond.static yX7_inverse]
def wsX7_together_r2 : List Cond := [Cond.code yX7_inverse cX7_inverse 1 (some .int), Cond.methodLink RX7 40 yX7_power, Cond.static yX7_power, Cond.code yX7_power cX7_power 5 (some .int)]
def wsX7_together : List Cond := .code yX7_together cX7_together 5 (some .int) :: ((wsX7_together_r1 ++ wsX7_together_r2) ++ wsX70)
def wsX7_open_r1 : List Cond := [Cond.fieldLink RX7 7 "FreshSharesModel" "state" "[I", Cond.methodLink RX7 123 yX7_honest, Cond.instanceMethod yX7_honest, Cond.selects RX7 yX7_honest yX7_honest, Cond.initialized RX7, Cond.code yX7_honest cX7_honest 6 (some .int), Cond.fieldLink RX7 71 "FreshSharesModel" "signs" "I", Cond.methodLink RX7 75 yX7_figure, Cond.instanceMethod yX7_figure, Cond.selects RX7 yX7_figure yX7_figure, Cond.code yX7_figure cX7_figure 2 (some .int), Cond.fieldLink RX7 13 "FreshSharesModel" "text" "[I", Cond.methodLink RX7 61 yX7_hasShare, Cond.instanceMethod yX7_hasShare, Cond.selects RX7 yX7_hasShare yX7_hasShare, Cond.code yX7_hasShare cX7_hasShare 2 (some .boolean), Cond.methodLink RX7 64 yX7_told, Cond.instanceMethod yX7_told, Cond.selects RX7 yX7_told yX7_told, Cond.code yX7_told cX7_told 2 (some .int), Cond.methodLink RX7 51 yX7_bentOf, Cond.instanceMethod yX7_bentOf, Cond.selects RX7 yX7_bentOf yX7_bentOf, Cond.code yX7_bentOf cX7_bentOf 3 (some .int)]
def wsX7_open_r2 : List Cond := [Cond.methodLink RX7 32 yX7_bentAt, Cond.static yX7_bentAt, Cond.code yX7_bentAt cX7_bentAt 2 (some .int), Cond.methodLink RX7 54 yX7_mod, Cond.static yX7_mod, Cond.code yX7_mod cX7_mod 2 (some .int), Cond.methodLink RX7 67 yX7_isFit, Cond.instanceMethod yX7_isFit, Cond.selects RX7 yX7_isFit yX7_isFit, Cond.code yX7_isFit cX7_isFit 5 (some .boolean), Cond.methodLink RX7 40 yX7_power, Cond.static yX7_power, Cond.code yX7_power cX7_power 5 (some .int), Cond.methodLink RX7 58 yX7_sealOf, Cond.static yX7_sealOf, Cond.code yX7_sealOf cX7_sealOf 1 (some .int), Cond.methodLink RX7 120 yX7_bits, Cond.static yX7_bits, Cond.code yX7_bits cX7_bits 3 (some .int), Cond.methodLink RX7 126 yX7_firstOf, Cond.static yX7_firstOf, Cond.code yX7_firstOf cX7_firstOf 4 (some .int), Cond.methodLink RX7 88 yX7_has, Cond.static yX7_has]
def wsX7_open_r3 : List Cond := [Cond.code yX7_has cX7_has 2 (some .boolean), Cond.methodLink RX7 129 yX7_together, Cond.instanceMethod yX7_together, Cond.selects RX7 yX7_together yX7_together, Cond.code yX7_together cX7_together 5 (some .int), Cond.methodLink RX7 94 yX7_weight, Cond.static yX7_weight, Cond.code yX7_weight cX7_weight 5 (some .int), Cond.methodLink RX7 91 yX7_inverse, Cond.static yX7_inverse, Cond.code yX7_inverse cX7_inverse 1 (some .int)]
def wsX7_open : List Cond := .code yX7_open cX7_open 2 (some .int) :: ((wsX7_open_r1 ++ (wsX7_open_r2 ++ wsX7_open_r3)) ++ wsX70)
def wsX7_rebuild_r1 : List Cond := [Cond.fieldLink RX7 7 "FreshSharesModel" "state" "[I", Cond.methodLink RX7 75 yX7_figure, Cond.instanceMethod yX7_figure, Cond.selects RX7 yX7_figure yX7_figure, Cond.initialized RX7, Cond.code yX7_figure cX7_figure 2 (some .int), Cond.fieldLink RX7 13 "FreshSharesModel" "text" "[I", Cond.methodLink RX7 61 yX7_hasShare, Cond.instanceMethod yX7_hasShare, Cond.selects RX7 yX7_hasShare yX7_hasShare, Cond.code yX7_hasShare cX7_hasShare 2 (some .boolean), Cond.methodLink RX7 123 yX7_honest, Cond.instanceMethod yX7_honest, Cond.selects RX7 yX7_honest yX7_honest, Cond.code yX7_honest cX7_honest 6 (some .int), Cond.fieldLink RX7 71 "FreshSharesModel" "signs" "I", Cond.methodLink RX7 64 yX7_told, Cond.instanceMethod yX7_told, Cond.selects RX7 yX7_told yX7_told, Cond.code yX7_told cX7_told 2 (some .int), Cond.methodLink RX7 51 yX7_bentOf, Cond.instanceMethod yX7_bentOf, Cond.selects RX7 yX7_bentOf yX7_bentOf, Cond.code yX7_bentOf cX7_bentOf 3 (some .int)]
def wsX7_rebuild_r2 : List Cond := [Cond.methodLink RX7 32 yX7_bentAt, Cond.static yX7_bentAt, Cond.code yX7_bentAt cX7_bentAt 2 (some .int), Cond.methodLink RX7 54 yX7_mod, Cond.static yX7_mod, Cond.code yX7_mod cX7_mod 2 (some .int), Cond.methodLink RX7 67 yX7_isFit, Cond.instanceMethod yX7_isFit, Cond.selects RX7 yX7_isFit yX7_isFit, Cond.code yX7_isFit cX7_isFit 5 (some .boolean), Cond.methodLink RX7 40 yX7_power, Cond.static yX7_power, Cond.code yX7_power cX7_power 5 (some .int), Cond.methodLink RX7 58 yX7_sealOf, Cond.static yX7_sealOf, Cond.code yX7_sealOf cX7_sealOf 1 (some .int), Cond.methodLink RX7 120 yX7_bits, Cond.static yX7_bits, Cond.code yX7_bits cX7_bits 3 (some .int), Cond.methodLink RX7 126 yX7_firstOf, Cond.static yX7_firstOf, Cond.code yX7_firstOf cX7_firstOf 4 (some .int), Cond.methodLink RX7 88 yX7_has, Cond.static yX7_has]
def wsX7_rebuild_r3 : List Cond := [Cond.code yX7_has cX7_has 2 (some .boolean), Cond.methodLink RX7 129 yX7_together, Cond.instanceMethod yX7_together, Cond.selects RX7 yX7_together yX7_together, Cond.code yX7_together cX7_together 5 (some .int), Cond.methodLink RX7 94 yX7_weight, Cond.static yX7_weight, Cond.code yX7_weight cX7_weight 5 (some .int), Cond.methodLink RX7 91 yX7_inverse, Cond.static yX7_inverse, Cond.code yX7_inverse cX7_inverse 1 (some .int)]
def wsX7_rebuild : List Cond := .code yX7_rebuild cX7_rebuild 3 (some .int) :: ((wsX7_rebuild_r1 ++ (wsX7_rebuild_r2 ++ wsX7_rebuild_r3)) ++ wsX70)
def wsX7_steal : List Cond := .code yX7_steal cX7_steal 3 (some .int) :: ([.fieldLink RX7 7 "FreshSharesModel" "state" "[I", .methodLink RX7 61 yX7_hasShare, .instanceMethod yX7_hasShare, .selects RX7 yX7_hasShare yX7_hasShare, .initialized RX7, .code yX7_hasShare cX7_hasShare 2 (some .boolean)] ++ wsX70)
def wsX7_fresh_r1 : List Cond := [Cond.fieldLink RX7 19 "FreshSharesModel" "added" "[I", Cond.fieldLink RX7 7 "FreshSharesModel" "state" "[I", Cond.fieldLink RX7 97 "FreshSharesModel" "size" "I", Cond.fieldLink RX7 16 "FreshSharesModel" "poly" "[I", Cond.methodLink RX7 61 yX7_hasShare, Cond.instanceMethod yX7_hasShare, Cond.selects RX7 yX7_hasShare yX7_hasShare, Cond.initialized RX7, Cond.code yX7_hasShare cX7_hasShare 2 (some .boolean), Cond.methodLink RX7 106 yX7_layPoly, Cond.instanceMethod yX7_layPoly, Cond.selects RX7 yX7_layPoly yX7_layPoly, Cond.code yX7_layPoly cX7_layPoly 5 none, Cond.methodLink RX7 132 yX7_isStruck, Cond.instanceMethod yX7_isStruck, Cond.selects RX7 yX7_isStruck yX7_isStruck, Cond.code yX7_isStruck cX7_isStruck 8 (some .boolean), Cond.methodLink RX7 100 yX7_polyAt, Cond.instanceMethod yX7_polyAt, Cond.selects RX7 yX7_polyAt yX7_polyAt, Cond.code yX7_polyAt cX7_polyAt 4 (some .int), Cond.methodLink RX7 40 yX7_power, Cond.static yX7_power, Cond.code yX7_power cX7_power 5 (some .int)]
def wsX7_fresh_r2 : List Cond := [Cond.methodLink RX7 51 yX7_bentOf, Cond.instanceMethod yX7_bentOf, Cond.selects RX7 yX7_bentOf yX7_bentOf, Cond.code yX7_bentOf cX7_bentOf 3 (some .int), Cond.methodLink RX7 32 yX7_bentAt, Cond.static yX7_bentAt, Cond.code yX7_bentAt cX7_bentAt 2 (some .int), Cond.methodLink RX7 54 yX7_mod, Cond.static yX7_mod, Cond.code yX7_mod cX7_mod 2 (some .int), Cond.methodLink RX7 103 yX7_fitsPoly, Cond.instanceMethod yX7_fitsPoly, Cond.selects RX7 yX7_fitsPoly yX7_fitsPoly, Cond.code yX7_fitsPoly cX7_fitsPoly 5 (some .boolean), Cond.methodLink RX7 58 yX7_sealOf, Cond.static yX7_sealOf, Cond.code yX7_sealOf cX7_sealOf 1 (some .int), Cond.methodLink RX7 114 yX7_nextEpoch, Cond.instanceMethod yX7_nextEpoch, Cond.selects RX7 yX7_nextEpoch yX7_nextEpoch, Cond.code yX7_nextEpoch cX7_nextEpoch 1 none, Cond.methodLink RX7 135 yX7_strike, Cond.instanceMethod yX7_strike, Cond.selects RX7 yX7_strike yX7_strike]
def wsX7_fresh_r3 : List Cond := [Cond.code yX7_strike cX7_strike 2 none, Cond.methodLink RX7 88 yX7_has, Cond.static yX7_has, Cond.code yX7_has cX7_has 2 (some .boolean), Cond.methodLink RX7 117 yX7_having, Cond.instanceMethod yX7_having, Cond.selects RX7 yX7_having yX7_having, Cond.code yX7_having cX7_having 3 (some .int), Cond.methodLink RX7 120 yX7_bits, Cond.static yX7_bits, Cond.code yX7_bits cX7_bits 3 (some .int)]
def wsX7_fresh : List Cond := .code yX7_fresh cX7_fresh 3 (some .int) :: ((wsX7_fresh_r1 ++ (wsX7_fresh_r2 ++ wsX7_fresh_r3)) ++ wsX70)
def wsX7_takenFor_r1 : List Cond := [Cond.fieldLink RX7 71 "FreshSharesModel" "signs" "I", Cond.fieldLink RX7 7 "FreshSharesModel" "state" "[I", Cond.methodLink RX7 120 yX7_bits, Cond.static yX7_bits, Cond.initialized RX7, Cond.code yX7_bits cX7_bits 3 (some .int), Cond.methodLink RX7 75 yX7_figure, Cond.instanceMethod yX7_figure, Cond.selects RX7 yX7_figure yX7_figure, Cond.code yX7_figure cX7_figure 2 (some .int), Cond.fieldLink RX7 13 "FreshSharesModel" "text" "[I", Cond.methodLink RX7 61 yX7_hasShare, Cond.instanceMethod yX7_hasShare, Cond.selects RX7 yX7_hasShare yX7_hasShare, Cond.code yX7_hasShare cX7_hasShare 2 (some .boolean), Cond.methodLink RX7 64 yX7_told, Cond.instanceMethod yX7_told, Cond.selects RX7 yX7_told yX7_told, Cond.code yX7_told cX7_told 2 (some .int), Cond.methodLink RX7 51 yX7_bentOf, Cond.instanceMethod yX7_bentOf, Cond.selects RX7 yX7_bentOf yX7_bentOf, Cond.code yX7_bentOf cX7_bentOf 3 (some .int), Cond.methodLink RX7 32 yX7_bentAt]
def wsX7_takenFor_r2 : List Cond := [Cond.static yX7_bentAt, Cond.code yX7_bentAt cX7_bentAt 2 (some .int), Cond.methodLink RX7 54 yX7_mod, Cond.static yX7_mod, Cond.code yX7_mod cX7_mod 2 (some .int), Cond.methodLink RX7 67 yX7_isFit, Cond.instanceMethod yX7_isFit, Cond.selects RX7 yX7_isFit yX7_isFit, Cond.code yX7_isFit cX7_isFit 5 (some .boolean), Cond.methodLink RX7 40 yX7_power, Cond.static yX7_power, Cond.code yX7_power cX7_power 5 (some .int), Cond.methodLink RX7 58 yX7_sealOf, Cond.static yX7_sealOf, Cond.code yX7_sealOf cX7_sealOf 1 (some .int), Cond.methodLink RX7 106 yX7_layPoly, Cond.instanceMethod yX7_layPoly, Cond.selects RX7 yX7_layPoly yX7_layPoly, Cond.code yX7_layPoly cX7_layPoly 5 none, Cond.fieldLink RX7 97 "FreshSharesModel" "size" "I", Cond.fieldLink RX7 16 "FreshSharesModel" "poly" "[I", Cond.methodLink RX7 132 yX7_isStruck, Cond.instanceMethod yX7_isStruck, Cond.selects RX7 yX7_isStruck yX7_isStruck]
def wsX7_takenFor_r3 : List Cond := [Cond.code yX7_isStruck cX7_isStruck 8 (some .boolean), Cond.methodLink RX7 100 yX7_polyAt, Cond.instanceMethod yX7_polyAt, Cond.selects RX7 yX7_polyAt yX7_polyAt, Cond.code yX7_polyAt cX7_polyAt 4 (some .int), Cond.methodLink RX7 103 yX7_fitsPoly, Cond.instanceMethod yX7_fitsPoly, Cond.selects RX7 yX7_fitsPoly yX7_fitsPoly, Cond.code yX7_fitsPoly cX7_fitsPoly 5 (some .boolean)]
def wsX7_takenFor : List Cond := .code yX7_takenFor cX7_takenFor 5 (some .int) :: ((wsX7_takenFor_r1 ++ (wsX7_takenFor_r2 ++ wsX7_takenFor_r3)) ++ wsX70)
def wsX7_move_r1 : List Cond := [Cond.fieldLink RX7 7 "FreshSharesModel" "state" "[I", Cond.fieldLink RX7 19 "FreshSharesModel" "added" "[I", Cond.fieldLink RX7 22 "FreshSharesModel" "sealed" "[I", Cond.fieldLink RX7 16 "FreshSharesModel" "poly" "[I", Cond.methodLink RX7 138 yX7_takenFor, Cond.instanceMethod yX7_takenFor, Cond.selects RX7 yX7_takenFor yX7_takenFor, Cond.initialized RX7, Cond.code yX7_takenFor cX7_takenFor 5 (some .int), Cond.fieldLink RX7 71 "FreshSharesModel" "signs" "I", Cond.methodLink RX7 120 yX7_bits, Cond.static yX7_bits, Cond.code yX7_bits cX7_bits 3 (some .int), Cond.methodLink RX7 75 yX7_figure, Cond.instanceMethod yX7_figure, Cond.selects RX7 yX7_figure yX7_figure, Cond.code yX7_figure cX7_figure 2 (some .int), Cond.fieldLink RX7 13 "FreshSharesModel" "text" "[I", Cond.methodLink RX7 61 yX7_hasShare, Cond.instanceMethod yX7_hasShare, Cond.selects RX7 yX7_hasShare yX7_hasShare, Cond.code yX7_hasShare cX7_hasShare 2 (some .boolean), Cond.methodLink RX7 64 yX7_told, Cond.instanceMethod yX7_told]
def wsX7_move_r2 : List Cond := [Cond.selects RX7 yX7_told yX7_told, Cond.code yX7_told cX7_told 2 (some .int), Cond.methodLink RX7 51 yX7_bentOf, Cond.instanceMethod yX7_bentOf, Cond.selects RX7 yX7_bentOf yX7_bentOf, Cond.code yX7_bentOf cX7_bentOf 3 (some .int), Cond.methodLink RX7 32 yX7_bentAt, Cond.static yX7_bentAt, Cond.code yX7_bentAt cX7_bentAt 2 (some .int), Cond.methodLink RX7 54 yX7_mod, Cond.static yX7_mod, Cond.code yX7_mod cX7_mod 2 (some .int), Cond.methodLink RX7 67 yX7_isFit, Cond.instanceMethod yX7_isFit, Cond.selects RX7 yX7_isFit yX7_isFit, Cond.code yX7_isFit cX7_isFit 5 (some .boolean), Cond.methodLink RX7 40 yX7_power, Cond.static yX7_power, Cond.code yX7_power cX7_power 5 (some .int), Cond.methodLink RX7 58 yX7_sealOf, Cond.static yX7_sealOf, Cond.code yX7_sealOf cX7_sealOf 1 (some .int), Cond.methodLink RX7 106 yX7_layPoly, Cond.instanceMethod yX7_layPoly]
def wsX7_move_r3 : List Cond := [Cond.selects RX7 yX7_layPoly yX7_layPoly, Cond.code yX7_layPoly cX7_layPoly 5 none, Cond.fieldLink RX7 97 "FreshSharesModel" "size" "I", Cond.methodLink RX7 132 yX7_isStruck, Cond.instanceMethod yX7_isStruck, Cond.selects RX7 yX7_isStruck yX7_isStruck, Cond.code yX7_isStruck cX7_isStruck 8 (some .boolean), Cond.methodLink RX7 100 yX7_polyAt, Cond.instanceMethod yX7_polyAt, Cond.selects RX7 yX7_polyAt yX7_polyAt, Cond.code yX7_polyAt cX7_polyAt 4 (some .int), Cond.methodLink RX7 103 yX7_fitsPoly, Cond.instanceMethod yX7_fitsPoly, Cond.selects RX7 yX7_fitsPoly yX7_fitsPoly, Cond.code yX7_fitsPoly cX7_fitsPoly 5 (some .boolean), Cond.methodLink RX7 88 yX7_has, Cond.static yX7_has, Cond.code yX7_has cX7_has 2 (some .boolean), Cond.methodLink RX7 94 yX7_weight, Cond.static yX7_weight, Cond.code yX7_weight cX7_weight 5 (some .int), Cond.methodLink RX7 91 yX7_inverse, Cond.static yX7_inverse, Cond.code yX7_inverse cX7_inverse 1 (some .int)]
def wsX7_move_r4 : List Cond := [Cond.methodLink RX7 114 yX7_nextEpoch, Cond.instanceMethod yX7_nextEpoch, Cond.selects RX7 yX7_nextEpoch yX7_nextEpoch, Cond.code yX7_nextEpoch cX7_nextEpoch 1 none, Cond.methodLink RX7 135 yX7_strike, Cond.instanceMethod yX7_strike, Cond.selects RX7 yX7_strike yX7_strike, Cond.code yX7_strike cX7_strike 2 none, Cond.methodLink RX7 117 yX7_having, Cond.instanceMethod yX7_having, Cond.selects RX7 yX7_having yX7_having, Cond.code yX7_having cX7_having 3 (some .int)]
def wsX7_move : List Cond := .code yX7_move cX7_move 6 (some .int) :: ((wsX7_move_r1 ++ (wsX7_move_r2 ++ (wsX7_move_r3 ++ wsX7_move_r4))) ++ wsX70)
def wsX7_done_r1 : List Cond := [Cond.methodLink RX7 75 yX7_figure, Cond.instanceMethod yX7_figure, Cond.selects RX7 yX7_figure yX7_figure, Cond.initialized RX7, Cond.code yX7_figure cX7_figure 2 (some .int), Cond.fieldLink RX7 13 "FreshSharesModel" "text" "[I", Cond.methodLink RX7 141 yX7_deal, Cond.instanceMethod yX7_deal, Cond.selects RX7 yX7_deal yX7_deal, Cond.code yX7_deal cX7_deal 3 (some .int), Cond.fieldLink RX7 7 "FreshSharesModel" "state" "[I", Cond.fieldLink RX7 16 "FreshSharesModel" "poly" "[I", Cond.methodLink RX7 106 yX7_layPoly, Cond.instanceMethod yX7_layPoly, Cond.selects RX7 yX7_layPoly yX7_layPoly, Cond.code yX7_layPoly cX7_layPoly 5 none, Cond.fieldLink RX7 97 "FreshSharesModel" "size" "I", Cond.methodLink RX7 58 yX7_sealOf, Cond.static yX7_sealOf, Cond.code yX7_sealOf cX7_sealOf 1 (some .int), Cond.methodLink RX7 40 yX7_power, Cond.static yX7_power, Cond.code yX7_power cX7_power 5 (some .int), Cond.methodLink RX7 100 yX7_polyAt]
def wsX7_done_r2 : List Cond := [Cond.instanceMethod yX7_polyAt, Cond.selects RX7 yX7_polyAt yX7_polyAt, Cond.code yX7_polyAt cX7_polyAt 4 (some .int), Cond.methodLink RX7 110 yX7_isDealt, Cond.instanceMethod yX7_isDealt, Cond.selects RX7 yX7_isDealt yX7_isDealt, Cond.code yX7_isDealt cX7_isDealt 1 (some .boolean), Cond.methodLink RX7 114 yX7_nextEpoch, Cond.instanceMethod yX7_nextEpoch, Cond.selects RX7 yX7_nextEpoch yX7_nextEpoch, Cond.code yX7_nextEpoch cX7_nextEpoch 1 none, Cond.methodLink RX7 144 yX7_forget, Cond.instanceMethod yX7_forget, Cond.selects RX7 yX7_forget yX7_forget, Cond.code yX7_forget cX7_forget 2 (some .int), Cond.methodLink RX7 117 yX7_having, Cond.instanceMethod yX7_having, Cond.selects RX7 yX7_having yX7_having, Cond.code yX7_having cX7_having 3 (some .int), Cond.methodLink RX7 61 yX7_hasShare, Cond.instanceMethod yX7_hasShare, Cond.selects RX7 yX7_hasShare yX7_hasShare, Cond.code yX7_hasShare cX7_hasShare 2 (some .boolean), Cond.methodLink RX7 120 yX7_bits]
def wsX7_done_r3 : List Cond := [Cond.static yX7_bits, Cond.code yX7_bits cX7_bits 3 (some .int), Cond.methodLink RX7 147 yX7_open, Cond.instanceMethod yX7_open, Cond.selects RX7 yX7_open yX7_open, Cond.code yX7_open cX7_open 2 (some .int), Cond.methodLink RX7 123 yX7_honest, Cond.instanceMethod yX7_honest, Cond.selects RX7 yX7_honest yX7_honest, Cond.code yX7_honest cX7_honest 6 (some .int), Cond.fieldLink RX7 71 "FreshSharesModel" "signs" "I", Cond.methodLink RX7 64 yX7_told, Cond.instanceMethod yX7_told, Cond.selects RX7 yX7_told yX7_told, Cond.code yX7_told cX7_told 2 (some .int), Cond.methodLink RX7 51 yX7_bentOf, Cond.instanceMethod yX7_bentOf, Cond.selects RX7 yX7_bentOf yX7_bentOf, Cond.code yX7_bentOf cX7_bentOf 3 (some .int), Cond.methodLink RX7 32 yX7_bentAt, Cond.static yX7_bentAt, Cond.code yX7_bentAt cX7_bentAt 2 (some .int), Cond.methodLink RX7 54 yX7_mod, Cond.static yX7_mod]
def wsX7_done_r4 : List Cond := [Cond.code yX7_mod cX7_mod 2 (some .int), Cond.methodLink RX7 67 yX7_isFit, Cond.instanceMethod yX7_isFit, Cond.selects RX7 yX7_isFit yX7_isFit, Cond.code yX7_isFit cX7_isFit 5 (some .boolean), Cond.methodLink RX7 126 yX7_firstOf, Cond.static yX7_firstOf, Cond.code yX7_firstOf cX7_firstOf 4 (some .int), Cond.methodLink RX7 88 yX7_has, Cond.static yX7_has, Cond.code yX7_has cX7_has 2 (some .boolean), Cond.methodLink RX7 129 yX7_together, Cond.instanceMethod yX7_together, Cond.selects RX7 yX7_together yX7_together, Cond.code yX7_together cX7_together 5 (some .int), Cond.methodLink RX7 94 yX7_weight, Cond.static yX7_weight, Cond.code yX7_weight cX7_weight 5 (some .int), Cond.methodLink RX7 91 yX7_inverse, Cond.static yX7_inverse, Cond.code yX7_inverse cX7_inverse 1 (some .int), Cond.methodLink RX7 150 yX7_rebuild, Cond.instanceMethod yX7_rebuild, Cond.selects RX7 yX7_rebuild yX7_rebuild]
def wsX7_done_r5 : List Cond := [Cond.code yX7_rebuild cX7_rebuild 3 (some .int), Cond.methodLink RX7 153 yX7_steal, Cond.instanceMethod yX7_steal, Cond.selects RX7 yX7_steal yX7_steal, Cond.code yX7_steal cX7_steal 3 (some .int), Cond.methodLink RX7 156 yX7_fresh, Cond.instanceMethod yX7_fresh, Cond.selects RX7 yX7_fresh yX7_fresh, Cond.code yX7_fresh cX7_fresh 3 (some .int), Cond.fieldLink RX7 19 "FreshSharesModel" "added" "[I", Cond.methodLink RX7 132 yX7_isStruck, Cond.instanceMethod yX7_isStruck, Cond.selects RX7 yX7_isStruck yX7_isStruck, Cond.code yX7_isStruck cX7_isStruck 8 (some .boolean), Cond.methodLink RX7 103 yX7_fitsPoly, Cond.instanceMethod yX7_fitsPoly, Cond.selects RX7 yX7_fitsPoly yX7_fitsPoly, Cond.code yX7_fitsPoly cX7_fitsPoly 5 (some .boolean), Cond.methodLink RX7 135 yX7_strike, Cond.instanceMethod yX7_strike, Cond.selects RX7 yX7_strike yX7_strike, Cond.code yX7_strike cX7_strike 2 none, Cond.methodLink RX7 159 yX7_move, Cond.instanceMethod yX7_move]
def wsX7_done_r6 : List Cond := [Cond.selects RX7 yX7_move yX7_move, Cond.code yX7_move cX7_move 6 (some .int), Cond.fieldLink RX7 22 "FreshSharesModel" "sealed" "[I", Cond.methodLink RX7 138 yX7_takenFor, Cond.instanceMethod yX7_takenFor, Cond.selects RX7 yX7_takenFor yX7_takenFor, Cond.code yX7_takenFor cX7_takenFor 5 (some .int)]
def wsX7_done : List Cond := .code yX7_done cX7_done 2 (some .int) :: ((wsX7_done_r1 ++ (wsX7_done_r2 ++ (wsX7_done_r3 ++ (wsX7_done_r4 ++ (wsX7_done_r5 ++ wsX7_done_r6))))) ++ wsX70)
def wsX7_act_r1 : List Cond := [Cond.fieldLink RX7 13 "FreshSharesModel" "text" "[I", Cond.fieldLink RX7 7 "FreshSharesModel" "state" "[I", Cond.fieldLink RX7 71 "FreshSharesModel" "signs" "I", Cond.methodLink RX7 84 yX7_faultNow, Cond.instanceMethod yX7_faultNow, Cond.selects RX7 yX7_faultNow yX7_faultNow, Cond.initialized RX7, Cond.code yX7_faultNow cX7_faultNow 2 (some .int), Cond.methodLink RX7 78 yX7_leastOf, Cond.static yX7_leastOf, Cond.code yX7_leastOf cX7_leastOf 1 (some .int), Cond.methodLink RX7 81 yX7_canStand, Cond.instanceMethod yX7_canStand, Cond.selects RX7 yX7_canStand yX7_canStand, Cond.code yX7_canStand cX7_canStand 3 (some .boolean), Cond.methodLink RX7 75 yX7_figure, Cond.instanceMethod yX7_figure, Cond.selects RX7 yX7_figure yX7_figure, Cond.code yX7_figure cX7_figure 2 (some .int), Cond.methodLink RX7 36 yX7_in, Cond.static yX7_in, Cond.code yX7_in cX7_in 3 (some .boolean), Cond.methodLink RX7 48 yX7_isMember, Cond.static yX7_isMember]
def wsX7_act_r2 : List Cond := [Cond.code yX7_isMember cX7_isMember 1 (some .boolean), Cond.methodLink RX7 110 yX7_isDealt, Cond.instanceMethod yX7_isDealt, Cond.selects RX7 yX7_isDealt yX7_isDealt, Cond.code yX7_isDealt cX7_isDealt 1 (some .boolean), Cond.methodLink RX7 162 yX7_done, Cond.instanceMethod yX7_done, Cond.selects RX7 yX7_done yX7_done, Cond.code yX7_done cX7_done 2 (some .int), Cond.methodLink RX7 141 yX7_deal, Cond.instanceMethod yX7_deal, Cond.selects RX7 yX7_deal yX7_deal, Cond.code yX7_deal cX7_deal 3 (some .int), Cond.fieldLink RX7 16 "FreshSharesModel" "poly" "[I", Cond.methodLink RX7 106 yX7_layPoly, Cond.instanceMethod yX7_layPoly, Cond.selects RX7 yX7_layPoly yX7_layPoly, Cond.code yX7_layPoly cX7_layPoly 5 none, Cond.fieldLink RX7 97 "FreshSharesModel" "size" "I", Cond.methodLink RX7 58 yX7_sealOf, Cond.static yX7_sealOf, Cond.code yX7_sealOf cX7_sealOf 1 (some .int), Cond.methodLink RX7 40 yX7_power, Cond.static yX7_power]
def wsX7_act_r3 : List Cond := [Cond.code yX7_power cX7_power 5 (some .int), Cond.methodLink RX7 100 yX7_polyAt, Cond.instanceMethod yX7_polyAt, Cond.selects RX7 yX7_polyAt yX7_polyAt, Cond.code yX7_polyAt cX7_polyAt 4 (some .int), Cond.methodLink RX7 114 yX7_nextEpoch, Cond.instanceMethod yX7_nextEpoch, Cond.selects RX7 yX7_nextEpoch yX7_nextEpoch, Cond.code yX7_nextEpoch cX7_nextEpoch 1 none, Cond.methodLink RX7 144 yX7_forget, Cond.instanceMethod yX7_forget, Cond.selects RX7 yX7_forget yX7_forget, Cond.code yX7_forget cX7_forget 2 (some .int), Cond.methodLink RX7 117 yX7_having, Cond.instanceMethod yX7_having, Cond.selects RX7 yX7_having yX7_having, Cond.code yX7_having cX7_having 3 (some .int), Cond.methodLink RX7 61 yX7_hasShare, Cond.instanceMethod yX7_hasShare, Cond.selects RX7 yX7_hasShare yX7_hasShare, Cond.code yX7_hasShare cX7_hasShare 2 (some .boolean), Cond.methodLink RX7 120 yX7_bits, Cond.static yX7_bits, Cond.code yX7_bits cX7_bits 3 (some .int)]
def wsX7_act_r4 : List Cond := [Cond.methodLink RX7 147 yX7_open, Cond.instanceMethod yX7_open, Cond.selects RX7 yX7_open yX7_open, Cond.code yX7_open cX7_open 2 (some .int), Cond.methodLink RX7 123 yX7_honest, Cond.instanceMethod yX7_honest, Cond.selects RX7 yX7_honest yX7_honest, Cond.code yX7_honest cX7_honest 6 (some .int), Cond.methodLink RX7 64 yX7_told, Cond.instanceMethod yX7_told, Cond.selects RX7 yX7_told yX7_told, Cond.code yX7_told cX7_told 2 (some .int), Cond.methodLink RX7 51 yX7_bentOf, Cond.instanceMethod yX7_bentOf, Cond.selects RX7 yX7_bentOf yX7_bentOf, Cond.code yX7_bentOf cX7_bentOf 3 (some .int), Cond.methodLink RX7 32 yX7_bentAt, Cond.static yX7_bentAt, Cond.code yX7_bentAt cX7_bentAt 2 (some .int), Cond.methodLink RX7 54 yX7_mod, Cond.static yX7_mod, Cond.code yX7_mod cX7_mod 2 (some .int), Cond.methodLink RX7 67 yX7_isFit, Cond.instanceMethod yX7_isFit]
def wsX7_act_r5 : List Cond := [Cond.selects RX7 yX7_isFit yX7_isFit, Cond.code yX7_isFit cX7_isFit 5 (some .boolean), Cond.methodLink RX7 126 yX7_firstOf, Cond.static yX7_firstOf, Cond.code yX7_firstOf cX7_firstOf 4 (some .int), Cond.methodLink RX7 88 yX7_has, Cond.static yX7_has, Cond.code yX7_has cX7_has 2 (some .boolean), Cond.methodLink RX7 129 yX7_together, Cond.instanceMethod yX7_together, Cond.selects RX7 yX7_together yX7_together, Cond.code yX7_together cX7_together 5 (some .int), Cond.methodLink RX7 94 yX7_weight, Cond.static yX7_weight, Cond.code yX7_weight cX7_weight 5 (some .int), Cond.methodLink RX7 91 yX7_inverse, Cond.static yX7_inverse, Cond.code yX7_inverse cX7_inverse 1 (some .int), Cond.methodLink RX7 150 yX7_rebuild, Cond.instanceMethod yX7_rebuild, Cond.selects RX7 yX7_rebuild yX7_rebuild, Cond.code yX7_rebuild cX7_rebuild 3 (some .int), Cond.methodLink RX7 153 yX7_steal, Cond.instanceMethod yX7_steal]
def wsX7_act_r6 : List Cond := [Cond.selects RX7 yX7_steal yX7_steal, Cond.code yX7_steal cX7_steal 3 (some .int), Cond.methodLink RX7 156 yX7_fresh, Cond.instanceMethod yX7_fresh, Cond.selects RX7 yX7_fresh yX7_fresh, Cond.code yX7_fresh cX7_fresh 3 (some .int), Cond.fieldLink RX7 19 "FreshSharesModel" "added" "[I", Cond.methodLink RX7 132 yX7_isStruck, Cond.instanceMethod yX7_isStruck, Cond.selects RX7 yX7_isStruck yX7_isStruck, Cond.code yX7_isStruck cX7_isStruck 8 (some .boolean), Cond.methodLink RX7 103 yX7_fitsPoly, Cond.instanceMethod yX7_fitsPoly, Cond.selects RX7 yX7_fitsPoly yX7_fitsPoly, Cond.code yX7_fitsPoly cX7_fitsPoly 5 (some .boolean), Cond.methodLink RX7 135 yX7_strike, Cond.instanceMethod yX7_strike, Cond.selects RX7 yX7_strike yX7_strike, Cond.code yX7_strike cX7_strike 2 none, Cond.methodLink RX7 159 yX7_move, Cond.instanceMethod yX7_move, Cond.selects RX7 yX7_move yX7_move, Cond.code yX7_move cX7_move 6 (some .int), Cond.fieldLink RX7 22 "FreshSharesModel" "sealed" "[I"]
def wsX7_act_r7 : List Cond := [Cond.methodLink RX7 138 yX7_takenFor, Cond.instanceMethod yX7_takenFor, Cond.selects RX7 yX7_takenFor yX7_takenFor, Cond.code yX7_takenFor cX7_takenFor 5 (some .int)]
def wsX7_act : List Cond := .code yX7_act cX7_act 4 (some .int) :: ((wsX7_act_r1 ++ (wsX7_act_r2 ++ (wsX7_act_r3 ++ (wsX7_act_r4 ++ (wsX7_act_r5 ++ (wsX7_act_r6 ++ wsX7_act_r7)))))) ++ wsX70)
def wsX7_named : List Cond := .code yX7_named cX7_named 2 (some .int) :: ([.fieldLink RX7 7 "FreshSharesModel" "state" "[I"] ++ wsX70)
def wsX7_fits : List Cond := .code yX7_fits cX7_fits 3 (some .int) :: ([.methodLink RX7 44 yX7_isValue, .static yX7_isValue, .initialized RX7, .code yX7_isValue cX7_isValue 1 (some .boolean), .methodLink RX7 36 yX7_in, .static yX7_in, .code yX7_in cX7_in 3 (some .boolean), .methodLink RX7 110 yX7_isDealt, .instanceMethod yX7_isDealt, .selects RX7 yX7_isDealt yX7_isDealt, .code yX7_isDealt cX7_isDealt 1 (some .boolean), .fieldLink RX7 7 "FreshSharesModel" "state" "[I", .methodLink RX7 67 yX7_isFit, .instanceMethod yX7_isFit, .selects RX7 yX7_isFit yX7_isFit, .code yX7_isFit cX7_isFit 5 (some .boolean), .methodLink RX7 40 yX7_power, .static yX7_power, .code yX7_power cX7_power 5 (some .int), .methodLink RX7 58 yX7_sealOf, .static yX7_sealOf, .code yX7_sealOf cX7_sealOf 1 (some .int)] ++ wsX70)
def wsX7_seal : List Cond := .code yX7_seal cX7_seal 2 (some .int) :: ([.fieldLink RX7 7 "FreshSharesModel" "state" "[I", .methodLink RX7 110 yX7_isDealt, .instanceMethod yX7_isDealt, .selects RX7 yX7_isDealt yX7_isDealt, .initialized RX7, .code yX7_isDealt cX7_isDealt 1 (some .boolean), .methodLink RX7 36 yX7_in, .static yX7_in, .code yX7_in cX7_in 3 (some .boolean)] ++ wsX70)
def wsX7_loot : List Cond := .code yX7_loot cX7_loot 3 (some .int) :: ([.fieldLink RX7 7 "FreshSharesModel" "state" "[I", .methodLink RX7 36 yX7_in, .static yX7_in, .initialized RX7, .code yX7_in cX7_in 3 (some .boolean)] ++ wsX70)
def wsX7_lootOf : List Cond := .code yX7_lootOf cX7_lootOf 3 (some .int) :: ([.fieldLink RX7 7 "FreshSharesModel" "state" "[I"] ++ wsX70)
def wsX7_isWorld : List Cond := .code yX7_isWorld cX7_isWorld 3 (some .boolean) :: ([.fieldLink RX7 7 "FreshSharesModel" "state" "[I", .methodLink RX7 165 yX7_lootOf, .instanceMethod yX7_lootOf, .selects RX7 yX7_lootOf yX7_lootOf, .initialized RX7, .code yX7_lootOf cX7_lootOf 3 (some .int), .methodLink RX7 100 yX7_polyAt, .instanceMethod yX7_polyAt, .selects RX7 yX7_polyAt yX7_polyAt, .code yX7_polyAt cX7_polyAt 4 (some .int), .fieldLink RX7 97 "FreshSharesModel" "size" "I", .fieldLink RX7 16 "FreshSharesModel" "poly" "[I", .methodLink RX7 40 yX7_power, .static yX7_power, .code yX7_power cX7_power 5 (some .int)] ++ wsX70)
def wsX7_isEpoch : List Cond := .code yX7_isEpoch cX7_isEpoch 2 (some .boolean) :: ([.fieldLink RX7 7 "FreshSharesModel" "state" "[I", .methodLink RX7 36 yX7_in, .static yX7_in, .initialized RX7, .code yX7_in cX7_in 3 (some .boolean)] ++ wsX70)
def wsX7_worlds_r1 : List Cond := [Cond.fieldLink RX7 7 "FreshSharesModel" "state" "[I", Cond.fieldLink RX7 97 "FreshSharesModel" "size" "I", Cond.fieldLink RX7 16 "FreshSharesModel" "poly" "[I", Cond.methodLink RX7 44 yX7_isValue, Cond.static yX7_isValue, Cond.initialized RX7, Cond.code yX7_isValue cX7_isValue 1 (some .boolean), Cond.methodLink RX7 36 yX7_in, Cond.static yX7_in, Cond.code yX7_in cX7_in 3 (some .boolean), Cond.methodLink RX7 168 yX7_isEpoch, Cond.instanceMethod yX7_isEpoch, Cond.selects RX7 yX7_isEpoch yX7_isEpoch, Cond.code yX7_isEpoch cX7_isEpoch 2 (some .boolean), Cond.methodLink RX7 171 yX7_isWorld, Cond.instanceMethod yX7_isWorld, Cond.selects RX7 yX7_isWorld yX7_isWorld, Cond.code yX7_isWorld cX7_isWorld 3 (some .boolean), Cond.methodLink RX7 165 yX7_lootOf, Cond.instanceMethod yX7_lootOf, Cond.selects RX7 yX7_lootOf yX7_lootOf, Cond.code yX7_lootOf cX7_lootOf 3 (some .int), Cond.methodLink RX7 100 yX7_polyAt, Cond.instanceMethod yX7_polyAt]
def wsX7_worlds_r2 : List Cond := [Cond.selects RX7 yX7_polyAt yX7_polyAt, Cond.code yX7_polyAt cX7_polyAt 4 (some .int), Cond.methodLink RX7 40 yX7_power, Cond.static yX7_power, Cond.code yX7_power cX7_power 5 (some .int)]
def wsX7_worlds : List Cond := .code yX7_worlds cX7_worlds 8 (some .int) :: ((wsX7_worlds_r1 ++ wsX7_worlds_r2) ++ wsX70)
def wsX7_lootFrom : List Cond := .code yX7_lootFrom cX7_lootFrom 4 (some .int) :: ([.fieldLink RX7 7 "FreshSharesModel" "state" "[I", .methodLink RX7 165 yX7_lootOf, .instanceMethod yX7_lootOf, .selects RX7 yX7_lootOf yX7_lootOf, .initialized RX7, .code yX7_lootOf cX7_lootOf 3 (some .int)] ++ wsX70)
def wsX7_robbed : List Cond := .code yX7_robbed cX7_robbed 4 (some .int) :: ([.methodLink RX7 174 yX7_lootFrom, .instanceMethod yX7_lootFrom, .selects RX7 yX7_lootFrom yX7_lootFrom, .initialized RX7, .code yX7_lootFrom cX7_lootFrom 4 (some .int), .fieldLink RX7 7 "FreshSharesModel" "state" "[I", .methodLink RX7 165 yX7_lootOf, .instanceMethod yX7_lootOf, .selects RX7 yX7_lootOf yX7_lootOf, .code yX7_lootOf cX7_lootOf 3 (some .int)] ++ wsX70)
def wsX7_opened_r1 : List Cond := [Cond.methodLink RX7 88 yX7_has, Cond.static yX7_has, Cond.initialized RX7, Cond.code yX7_has cX7_has 2 (some .boolean), Cond.methodLink RX7 174 yX7_lootFrom, Cond.instanceMethod yX7_lootFrom, Cond.selects RX7 yX7_lootFrom yX7_lootFrom, Cond.code yX7_lootFrom cX7_lootFrom 4 (some .int), Cond.fieldLink RX7 7 "FreshSharesModel" "state" "[I", Cond.methodLink RX7 165 yX7_lootOf, Cond.instanceMethod yX7_lootOf, Cond.selects RX7 yX7_lootOf yX7_lootOf, Cond.code yX7_lootOf cX7_lootOf 3 (some .int), Cond.methodLink RX7 94 yX7_weight, Cond.static yX7_weight, Cond.code yX7_weight cX7_weight 5 (some .int), Cond.methodLink RX7 54 yX7_mod, Cond.static yX7_mod, Cond.code yX7_mod cX7_mod 2 (some .int), Cond.methodLink RX7 91 yX7_inverse, Cond.static yX7_inverse, Cond.code yX7_inverse cX7_inverse 1 (some .int), Cond.methodLink RX7 40 yX7_power, Cond.static yX7_power]
def wsX7_opened_r2 : List Cond := [Cond.code yX7_power cX7_power 5 (some .int)]
def wsX7_opened : List Cond := .code yX7_opened cX7_opened 5 (some .int) :: ((wsX7_opened_r1 ++ wsX7_opened_r2) ++ wsX70)
def wsX7_thief_r1 : List Cond := [Cond.fieldLink RX7 7 "FreshSharesModel" "state" "[I", Cond.methodLink RX7 36 yX7_in, Cond.static yX7_in, Cond.initialized RX7, Cond.code yX7_in cX7_in 3 (some .boolean), Cond.methodLink RX7 110 yX7_isDealt, Cond.instanceMethod yX7_isDealt, Cond.selects RX7 yX7_isDealt yX7_isDealt, Cond.code yX7_isDealt cX7_isDealt 1 (some .boolean), Cond.methodLink RX7 177 yX7_robbed, Cond.instanceMethod yX7_robbed, Cond.selects RX7 yX7_robbed yX7_robbed, Cond.code yX7_robbed cX7_robbed 4 (some .int), Cond.methodLink RX7 174 yX7_lootFrom, Cond.instanceMethod yX7_lootFrom, Cond.selects RX7 yX7_lootFrom yX7_lootFrom, Cond.code yX7_lootFrom cX7_lootFrom 4 (some .int), Cond.methodLink RX7 165 yX7_lootOf, Cond.instanceMethod yX7_lootOf, Cond.selects RX7 yX7_lootOf yX7_lootOf, Cond.code yX7_lootOf cX7_lootOf 3 (some .int), Cond.methodLink RX7 120 yX7_bits, Cond.static yX7_bits, Cond.code yX7_bits cX7_bits 3 (some .int)]
def wsX7_thief_r2 : List Cond := [Cond.methodLink RX7 126 yX7_firstOf, Cond.static yX7_firstOf, Cond.code yX7_firstOf cX7_firstOf 4 (some .int), Cond.methodLink RX7 88 yX7_has, Cond.static yX7_has, Cond.code yX7_has cX7_has 2 (some .boolean), Cond.methodLink RX7 180 yX7_opened, Cond.instanceMethod yX7_opened, Cond.selects RX7 yX7_opened yX7_opened, Cond.code yX7_opened cX7_opened 5 (some .int), Cond.methodLink RX7 94 yX7_weight, Cond.static yX7_weight, Cond.code yX7_weight cX7_weight 5 (some .int), Cond.methodLink RX7 54 yX7_mod, Cond.static yX7_mod, Cond.code yX7_mod cX7_mod 2 (some .int), Cond.methodLink RX7 91 yX7_inverse, Cond.static yX7_inverse, Cond.code yX7_inverse cX7_inverse 1 (some .int), Cond.methodLink RX7 40 yX7_power, Cond.static yX7_power, Cond.code yX7_power cX7_power 5 (some .int)]
def wsX7_thief : List Cond := .code yX7_thief cX7_thief 4 (some .int) :: ((wsX7_thief_r1 ++ wsX7_thief_r2) ++ wsX70)
def wsX7_image : List Cond := .code yX7_image cX7_image 3 (some .int) :: ([.fieldLink RX7 25 "FreshSharesModel" "images" "[I", .fieldLink RX7 7 "FreshSharesModel" "state" "[I", .fieldLink RX7 28 "FreshSharesModel" "isKept" "[Z", .methodLink RX7 36 yX7_in, .static yX7_in, .initialized RX7, .code yX7_in cX7_in 3 (some .boolean)] ++ wsX70)
def wsX7_restore : List Cond := .code yX7_restore cX7_restore 3 (some .int) :: ([.fieldLink RX7 28 "FreshSharesModel" "isKept" "[Z", .fieldLink RX7 7 "FreshSharesModel" "state" "[I", .fieldLink RX7 25 "FreshSharesModel" "images" "[I", .methodLink RX7 36 yX7_in, .static yX7_in, .initialized RX7, .code yX7_in cX7_in 3 (some .boolean)] ++ wsX70)
def wsX7_count : List Cond := .code yX7_count cX7_count 2 (some .int) :: ([.fieldLink RX7 7 "FreshSharesModel" "state" "[I", .fieldLink RX7 71 "FreshSharesModel" "signs" "I", .fieldLink RX7 28 "FreshSharesModel" "isKept" "[Z", .methodLink RX7 117 yX7_having, .instanceMethod yX7_having, .selects RX7 yX7_having yX7_having, .initialized RX7, .code yX7_having cX7_having 3 (some .int), .methodLink RX7 61 yX7_hasShare, .instanceMethod yX7_hasShare, .selects RX7 yX7_hasShare yX7_hasShare, .code yX7_hasShare cX7_hasShare 2 (some .boolean), .methodLink RX7 120 yX7_bits, .static yX7_bits, .code yX7_bits cX7_bits 3 (some .int), .methodLink RX7 168 yX7_isEpoch, .instanceMethod yX7_isEpoch, .selects RX7 yX7_isEpoch yX7_isEpoch, .code yX7_isEpoch cX7_isEpoch 2 (some .boolean), .methodLink RX7 36 yX7_in, .static yX7_in, .code yX7_in cX7_in 3 (some .boolean)] ++ wsX70)
def wsJ9_min_7cf53 : List Cond := .code yJ9_min_7cf53 cJ9_min_7cf53 2 (some .int) :: ([])
abbrev vwCl : List vw_C := [(RX0, TX0, 12), (RX1, TX1, 4), (RX2, TX2, 6), (RX3, TX3, 2), (RX6, TX6, 4), (RX7, TX7, 9)]
set_option maxRecDepth 20000 in
theorem ggX0_init_X1_init : GoodIn wsX0_init wsX1_init := goodIn_r _ [22, 23, 2, 3, 4, 24, 25, 26, 27, 40, 41, 42, 43] (by decide +kernel) (by decide +kernel)
set_option maxRecDepth 20000 in
theorem gX0_init_X1_init : GoodIn wsX0_init (wsX1_init) := ggX0_init_X1_init
theorem dX0_init_0 : decode cX0_init 0 = .ok (.aload_n 0, 1) := by decide +kernel
theorem dX0_init_1 : decode cX0_init 1 = .ok (.invokespecial 3, 3) := by decide +kernel
theorem dX0_init_4 : decode cX0_init 4 = .ok (.aload_n 0, 1) := by decide +kernel
theorem dX0_init_5 : decode cX0_init 5 = .ok (.bipush 40, 2) := by decide +kernel
theorem dX0_init_7 : decode cX0_init 7 = .ok (.newarray .int, 2) := by decide +kernel
theorem dX0_init_9 : decode cX0_init 9 = .ok (.putfield 9, 3) := by decide +kernel
theorem dX0_init_12 : decode cX0_init 12 = .ok (.aload_n 0, 1) := by decide +kernel
theorem dX0_init_13 : decode cX0_init 13 = .ok (.bipush 40, 2) := by decide +kernel
theorem dX0_init_15 : decode cX0_init 15 = .ok (.newarray .int, 2) := by decide +kernel
theorem dX0_init_17 : decode cX0_init 17 = .ok (.putfield 15, 3) := by decide +kernel
theorem dX0_init_20 : decode cX0_init 20 = .ok (.aload_n 0, 1) := by decide +kernel
theorem dX0_init_21 : decode cX0_init 21 = .ok (.bipush 8, 2) := by decide +kernel
theorem dX0_init_23 : decode cX0_init 23 = .ok (.newarray .int, 2) := by decide +kernel
theorem dX0_init_25 : decode cX0_init 25 = .ok (.putfield 18, 3) := by decide +kernel
theorem dX0_init_28 : decode cX0_init 28 = .ok (.aload_n 0, 1) := by decide +kernel
theorem dX0_init_29 : decode cX0_init 29 = .ok (.iconst 5, 1) := by decide +kernel
theorem dX0_init_30 : decode cX0_init 30 = .ok (.newarray .int, 2) := by decide +kernel
theorem dX0_init_32 : decode cX0_init 32 = .ok (.putfield 21, 3) := by decide +kernel
theorem dX0_init_35 : decode cX0_init 35 = .ok (.aload_n 0, 1) := by decide +kernel
theorem dX0_init_36 : decode cX0_init 36 = .ok (.sipush 200, 3) := by decide +kernel
theorem dX0_init_39 : decode cX0_init 39 = .ok (.newarray .int, 2) := by decide +kernel
theorem dX0_init_41 : decode cX0_init 41 = .ok (.putfield 24, 3) := by decide +kernel
theorem dX0_init_44 : decode cX0_init 44 = .ok (.aload_n 0, 1) := by decide +kernel
theorem dX0_init_45 : decode cX0_init 45 = .ok (.new 27, 3) := by decide +kernel
theorem dX0_init_48 : decode cX0_init 48 = .ok (.dup, 1) := by decide +kernel
theorem dX0_init_49 : decode cX0_init 49 = .ok (.invokespecial 29, 3) := by decide +kernel
theorem dX0_init_52 : decode cX0_init 52 = .ok (.putfield 30, 3) := by decide +kernel
theorem dX0_init_55 : decode cX0_init 55 = .ok (.aload_n 0, 1) := by decide +kernel
theorem dX0_init_56 : decode cX0_init 56 = .ok (.iconst 0, 1) := by decide +kernel
theorem dX0_init_57 : decode cX0_init 57 = .ok (.putfield 34, 3) := by decide +kernel
theorem dX0_init_60 : decode cX0_init 60 = .ok (.aload_n 0, 1) := by decide +kernel
theorem dX0_init_61 : decode cX0_init 61 = .ok (.iconst 0, 1) := by decide +kernel
theorem dX0_init_62 : decode cX0_init 62 = .ok (.putfield 38, 3) := by decide +kernel
theorem dX0_init_65 : decode cX0_init 65 = .ok (.aload_n 0, 1) := by decide +kernel
theorem dX0_init_66 : decode cX0_init 66 = .ok (.iconst (-1), 1) := by decide +kernel
theorem dX0_init_67 : decode cX0_init 67 = .ok (.putfield 41, 3) := by decide +kernel
theorem dX0_init_70 : decode cX0_init 70 = .ok (.aload_n 0, 1) := by decide +kernel
theorem dX0_init_71 : decode cX0_init 71 = .ok (.iconst 0, 1) := by decide +kernel
theorem dX0_init_72 : decode cX0_init 72 = .ok (.putfield 44, 3) := by decide +kernel
theorem dX0_init_75 : decode cX0_init 75 = .ok (.aload_n 0, 1) := by decide +kernel
theorem dX0_init_76 : decode cX0_init 76 = .ok (.iconst 0, 1) := by decide +kernel
theorem dX0_init_77 : decode cX0_init 77 = .ok (.putfield 47, 3) := by decide +kernel
theorem dX0_init_80 : decode cX0_init 80 = .ok (.aload_n 0, 1) := by decide +kernel
theorem dX0_init_81 : decode cX0_init 81 = .ok (.iconst 0, 1) := by decide +kernel
theorem dX0_init_82 : decode cX0_init 82 = .ok (.putfield 50, 3) := by decide +kernel
theorem dX0_init_85 : decode cX0_init 85 = .ok (.iconst 1, 1) := by decide +kernel
theorem dX0_init_86 : decode cX0_init 86 = .ok (.istore_n 1, 1) := by decide +kernel
theorem dX0_init_87 : decode cX0_init 87 = .ok (.iload_n 1, 1) := by decide +kernel
theorem dX0_init_88 : decode cX0_init 88 = .ok (.bipush 7, 2) := by decide +kernel
theorem dX0_init_90 : decode cX0_init 90 = .ok (.if_icmp .gt 20, 3) := by decide +kernel
theorem dX0_init_93 : decode cX0_init 93 = .ok (.aload_n 0, 1) := by decide +kernel
theorem dX0_init_94 : decode cX0_init 94 = .ok (.getfield 15, 3) := by decide +kernel
theorem dX0_init_97 : decode cX0_init 97 = .ok (.iload_n 1, 1) := by decide +kernel
theorem dX0_init_98 : decode cX0_init 98 = .ok (.iconst 5, 1) := by decide +kernel
theorem dX0_init_99 : decode cX0_init 99 = .ok (.imul, 1) := by decide +kernel
theorem dX0_init_100 : decode cX0_init 100 = .ok (.iconst 4, 1) := by decide +kernel
theorem dX0_init_101 : decode cX0_init 101 = .ok (.iadd, 1) := by decide +kernel
theorem dX0_init_102 : decode cX0_init 102 = .ok (.iconst 1, 1) := by decide +kernel
theorem dX0_init_103 : decode cX0_init 103 = .ok (.iastore, 1) := by decide +kernel
theorem dX0_init_104 : decode cX0_init 104 = .ok (.iinc 1 1, 3) := by decide +kernel
theorem dX0_init_107 : decode cX0_init 107 = .ok (.goto (-20), 3) := by decide +kernel
theorem dX0_init_110 : decode cX0_init 110 = .ok (.return_, 1) := by decide +kernel
set_option maxRecDepth 20000 in
theorem ggX0_copyFrom_X1_copyFrom : GoodIn wsX0_copyFrom wsX1_copyFrom := goodIn_r _ [21, 22, 23, 3, 4, 5, 24, 25, 26, 39, 40, 41, 42] (by decide +kernel) (by decide +kernel)
set_option maxRecDepth 20000 in
theorem gX0_copyFrom_X1_copyFrom : GoodIn wsX0_copyFrom (wsV RX0 59 RX1 yX1_copyFrom wsX1_copyFrom) := goodIn_app (goodIn_of _ (by decide +kernel)) ggX0_copyFrom_X1_copyFrom
theorem dX0_copyFrom_0 : decode cX0_copyFrom 0 = .ok (.aload_n 1, 1) := by decide +kernel
theorem dX0_copyFrom_1 : decode cX0_copyFrom 1 = .ok (.getfield 9, 3) := by decide +kernel
theorem dX0_copyFrom_4 : decode cX0_copyFrom 4 = .ok (.iconst 0, 1) := by decide +kernel
theorem dX0_copyFrom_5 : decode cX0_copyFrom 5 = .ok (.aload_n 0, 1) := by decide +kernel
theorem dX0_copyFrom_6 : decode cX0_copyFrom 6 = .ok (.getfield 9, 3) := by decide +kernel
theorem dX0_copyFrom_9 : decode cX0_copyFrom 9 = .ok (.iconst 0, 1) := by decide +kernel
theorem dX0_copyFrom_10 : decode cX0_copyFrom 10 = .ok (.aload_n 0, 1) := by decide +kernel
theorem dX0_copyFrom_11 : decode cX0_copyFrom 11 = .ok (.getfield 9, 3) := by decide +kernel
theorem dX0_copyFrom_14 : decode cX0_copyFrom 14 = .ok (.arraylength, 1) := by decide +kernel
theorem dX0_copyFrom_15 : decode cX0_copyFrom 15 = .ok (.invokestatic 53, 3) := by decide +kernel
theorem dX0_copyFrom_18 : decode cX0_copyFrom 18 = .ok (.aload_n 1, 1) := by decide +kernel
theorem dX0_copyFrom_19 : decode cX0_copyFrom 19 = .ok (.getfield 15, 3) := by decide +kernel
theorem dX0_copyFrom_22 : decode cX0_copyFrom 22 = .ok (.iconst 0, 1) := by decide +kernel
theorem dX0_copyFrom_23 : decode cX0_copyFrom 23 = .ok (.aload_n 0, 1) := by decide +kernel
theorem dX0_copyFrom_24 : decode cX0_copyFrom 24 = .ok (.getfield 15, 3) := by decide +kernel
theorem dX0_copyFrom_27 : decode cX0_copyFrom 27 = .ok (.iconst 0, 1) := by decide +kernel
theorem dX0_copyFrom_28 : decode cX0_copyFrom 28 = .ok (.aload_n 0, 1) := by decide +kernel
theorem dX0_copyFrom_29 : decode cX0_copyFrom 29 = .ok (.getfield 15, 3) := by decide +kernel
theorem dX0_copyFrom_32 : decode cX0_copyFrom 32 = .ok (.arraylength, 1) := by decide +kernel
theorem dX0_copyFrom_33 : decode cX0_copyFrom 33 = .ok (.invokestatic 53, 3) := by decide +kernel
theorem dX0_copyFrom_36 : decode cX0_copyFrom 36 = .ok (.aload_n 1, 1) := by decide +kernel
theorem dX0_copyFrom_37 : decode cX0_copyFrom 37 = .ok (.getfield 18, 3) := by decide +kernel
theorem dX0_copyFrom_40 : decode cX0_copyFrom 40 = .ok (.iconst 0, 1) := by decide +kernel
theorem dX0_copyFrom_41 : decode cX0_copyFrom 41 = .ok (.aload_n 0, 1) := by decide +kernel
theorem dX0_copyFrom_42 : decode cX0_copyFrom 42 = .ok (.getfield 18, 3) := by decide +kernel
theorem dX0_copyFrom_45 : decode cX0_copyFrom 45 = .ok (.iconst 0, 1) := by decide +kernel
theorem dX0_copyFrom_46 : decode cX0_copyFrom 46 = .ok (.aload_n 0, 1) := by decide +kernel
theorem dX0_copyFrom_47 : decode cX0_copyFrom 47 = .ok (.getfield 18, 3) := by decide +kernel
theorem dX0_copyFrom_50 : decode cX0_copyFrom 50 = .ok (.arraylength, 1) := by decide +kernel
theorem dX0_copyFrom_51 : decode cX0_copyFrom 51 = .ok (.invokestatic 53, 3) := by decide +kernel
theorem dX0_copyFrom_54 : decode cX0_copyFrom 54 = .ok (.aload_n 1, 1) := by decide +kernel
theorem dX0_copyFrom_55 : decode cX0_copyFrom 55 = .ok (.getfield 21, 3) := by decide +kernel
theorem dX0_copyFrom_58 : decode cX0_copyFrom 58 = .ok (.iconst 0, 1) := by decide +kernel
theorem dX0_copyFrom_59 : decode cX0_copyFrom 59 = .ok (.aload_n 0, 1) := by decide +kernel
theorem dX0_copyFrom_60 : decode cX0_copyFrom 60 = .ok (.getfield 21, 3) := by decide +kernel
theorem dX0_copyFrom_63 : decode cX0_copyFrom 63 = .ok (.iconst 0, 1) := by decide +kernel
theorem dX0_copyFrom_64 : decode cX0_copyFrom 64 = .ok (.aload_n 0, 1) := by decide +kernel
theorem dX0_copyFrom_65 : decode cX0_copyFrom 65 = .ok (.getfield 21, 3) := by decide +kernel
theorem dX0_copyFrom_68 : decode cX0_copyFrom 68 = .ok (.arraylength, 1) := by decide +kernel
theorem dX0_copyFrom_69 : decode cX0_copyFrom 69 = .ok (.invokestatic 53, 3) := by decide +kernel
theorem dX0_copyFrom_72 : decode cX0_copyFrom 72 = .ok (.aload_n 1, 1) := by decide +kernel
theorem dX0_copyFrom_73 : decode cX0_copyFrom 73 = .ok (.getfield 24, 3) := by decide +kernel
theorem dX0_copyFrom_76 : decode cX0_copyFrom 76 = .ok (.iconst 0, 1) := by decide +kernel
theorem dX0_copyFrom_77 : decode cX0_copyFrom 77 = .ok (.aload_n 0, 1) := by decide +kernel
theorem dX0_copyFrom_78 : decode cX0_copyFrom 78 = .ok (.getfield 24, 3) := by decide +kernel
theorem dX0_copyFrom_81 : decode cX0_copyFrom 81 = .ok (.iconst 0, 1) := by decide +kernel
theorem dX0_copyFrom_82 : decode cX0_copyFrom 82 = .ok (.aload_n 0, 1) := by decide +kernel
theorem dX0_copyFrom_83 : decode cX0_copyFrom 83 = .ok (.getfield 24, 3) := by decide +kernel
theorem dX0_copyFrom_86 : decode cX0_copyFrom 86 = .ok (.arraylength, 1) := by decide +kernel
theorem dX0_copyFrom_87 : decode cX0_copyFrom 87 = .ok (.invokestatic 53, 3) := by decide +kernel
theorem dX0_copyFrom_90 : decode cX0_copyFrom 90 = .ok (.aload_n 0, 1) := by decide +kernel
theorem dX0_copyFrom_91 : decode cX0_copyFrom 91 = .ok (.getfield 30, 3) := by decide +kernel
theorem dX0_copyFrom_94 : decode cX0_copyFrom 94 = .ok (.aload_n 1, 1) := by decide +kernel
theorem dX0_copyFrom_95 : decode cX0_copyFrom 95 = .ok (.getfield 30, 3) := by decide +kernel
theorem dX0_copyFrom_98 : decode cX0_copyFrom 98 = .ok (.invokevirtual 59, 3) := by decide +kernel
theorem dX0_copyFrom_101 : decode cX0_copyFrom 101 = .ok (.aload_n 0, 1) := by decide +kernel
theorem dX0_copyFrom_102 : decode cX0_copyFrom 102 = .ok (.aload_n 1, 1) := by decide +kernel
theorem dX0_copyFrom_103 : decode cX0_copyFrom 103 = .ok (.getfield 34, 3) := by decide +kernel
theorem dX0_copyFrom_106 : decode cX0_copyFrom 106 = .ok (.putfield 34, 3) := by decide +kernel
theorem dX0_copyFrom_109 : decode cX0_copyFrom 109 = .ok (.aload_n 0, 1) := by decide +kernel
theorem dX0_copyFrom_110 : decode cX0_copyFrom 110 = .ok (.aload_n 1, 1) := by decide +kernel
theorem dX0_copyFrom_111 : decode cX0_copyFrom 111 = .ok (.getfield 38, 3) := by decide +kernel
theorem dX0_copyFrom_114 : decode cX0_copyFrom 114 = .ok (.putfield 38, 3) := by decide +kernel
theorem dX0_copyFrom_117 : decode cX0_copyFrom 117 = .ok (.aload_n 0, 1) := by decide +kernel
theorem dX0_copyFrom_118 : decode cX0_copyFrom 118 = .ok (.aload_n 1, 1) := by decide +kernel
theorem dX0_copyFrom_119 : decode cX0_copyFrom 119 = .ok (.getfield 41, 3) := by decide +kernel
theorem dX0_copyFrom_122 : decode cX0_copyFrom 122 = .ok (.putfield 41, 3) := by decide +kernel
theorem dX0_copyFrom_125 : decode cX0_copyFrom 125 = .ok (.aload_n 0, 1) := by decide +kernel
theorem dX0_copyFrom_126 : decode cX0_copyFrom 126 = .ok (.aload_n 1, 1) := by decide +kernel
theorem dX0_copyFrom_127 : decode cX0_copyFrom 127 = .ok (.getfield 44, 3) := by decide +kernel
theorem dX0_copyFrom_130 : decode cX0_copyFrom 130 = .ok (.putfield 44, 3) := by decide +kernel
theorem dX0_copyFrom_133 : decode cX0_copyFrom 133 = .ok (.aload_n 0, 1) := by decide +kernel
theorem dX0_copyFrom_134 : decode cX0_copyFrom 134 = .ok (.aload_n 1, 1) := by decide +kernel
theorem dX0_copyFrom_135 : decode cX0_copyFrom 135 = .ok (.getfield 47, 3) := by decide +kernel
theorem dX0_copyFrom_138 : decode cX0_copyFrom 138 = .ok (.putfield 47, 3) := by decide +kernel
theorem dX0_copyFrom_141 : decode cX0_copyFrom 141 = .ok (.aload_n 0, 1) := by decide +kernel
theorem dX0_copyFrom_142 : decode cX0_copyFrom 142 = .ok (.aload_n 1, 1) := by decide +kernel
theorem dX0_copyFrom_143 : decode cX0_copyFrom 143 = .ok (.getfield 50, 3) := by decide +kernel
theorem dX0_copyFrom_146 : decode cX0_copyFrom 146 = .ok (.putfield 50, 3) := by decide +kernel
theorem dX0_copyFrom_149 : decode cX0_copyFrom 149 = .ok (.return_, 1) := by decide +kernel
theorem dX0_isDealt_0 : decode cX0_isDealt 0 = .ok (.aload_n 0, 1) := by decide +kernel
theorem dX0_isDealt_1 : decode cX0_isDealt 1 = .ok (.getfield 41, 3) := by decide +kernel
theorem dX0_isDealt_4 : decode cX0_isDealt 4 = .ok (.ifCond .lt 7, 3) := by decide +kernel
theorem dX0_isDealt_7 : decode cX0_isDealt 7 = .ok (.iconst 1, 1) := by decide +kernel
theorem dX0_isDealt_8 : decode cX0_isDealt 8 = .ok (.goto 4, 3) := by decide +kernel
theorem dX0_isDealt_11 : decode cX0_isDealt 11 = .ok (.iconst 0, 1) := by decide +kernel
theorem dX0_isDealt_12 : decode cX0_isDealt 12 = .ok (.ireturn, 1) := by decide +kernel
theorem dX0_isLastEpoch_0 : decode cX0_isLastEpoch 0 = .ok (.aload_n 0, 1) := by decide +kernel
theorem dX0_isLastEpoch_1 : decode cX0_isLastEpoch 1 = .ok (.getfield 41, 3) := by decide +kernel
theorem dX0_isLastEpoch_4 : decode cX0_isLastEpoch 4 = .ok (.sipush 199, 3) := by decide +kernel
theorem dX0_isLastEpoch_7 : decode cX0_isLastEpoch 7 = .ok (.if_icmp .lt 7, 3) := by decide +kernel
theorem dX0_isLastEpoch_10 : decode cX0_isLastEpoch 10 = .ok (.iconst 1, 1) := by decide +kernel
theorem dX0_isLastEpoch_11 : decode cX0_isLastEpoch 11 = .ok (.goto 4, 3) := by decide +kernel
theorem dX0_isLastEpoch_14 : decode cX0_isLastEpoch 14 = .ok (.iconst 0, 1) := by decide +kernel
theorem dX0_isLastEpoch_15 : decode cX0_isLastEpoch 15 = .ok (.ireturn, 1) := by decide +kernel
theorem dX0_wasEpoch_0 : decode cX0_wasEpoch 0 = .ok (.iload_n 1, 1) := by decide +kernel
theorem dX0_wasEpoch_1 : decode cX0_wasEpoch 1 = .ok (.ifCond .lt 22, 3) := by decide +kernel
theorem dX0_wasEpoch_4 : decode cX0_wasEpoch 4 = .ok (.iload_n 1, 1) := by decide +kernel
theorem dX0_wasEpoch_5 : decode cX0_wasEpoch 5 = .ok (.aload_n 0, 1) := by decide +kernel
theorem dX0_wasEpoch_6 : decode cX0_wasEpoch 6 = .ok (.getfield 41, 3) := by decide +kernel
theorem dX0_wasEpoch_9 : decode cX0_wasEpoch 9 = .ok (.if_icmp .gt 14, 3) := by decide +kernel
theorem dX0_wasEpoch_12 : decode cX0_wasEpoch 12 = .ok (.iload_n 1, 1) := by decide +kernel
theorem dX0_wasEpoch_13 : decode cX0_wasEpoch 13 = .ok (.sipush 200, 3) := by decide +kernel
theorem dX0_wasEpoch_16 : decode cX0_wasEpoch 16 = .ok (.if_icmp .ge 7, 3) := by decide +kernel
theorem dX0_wasEpoch_19 : decode cX0_wasEpoch 19 = .ok (.iconst 1, 1) := by decide +kernel
theorem dX0_wasEpoch_20 : decode cX0_wasEpoch 20 = .ok (.goto 4, 3) := by decide +kernel
theorem dX0_wasEpoch_23 : decode cX0_wasEpoch 23 = .ok (.iconst 0, 1) := by decide +kernel
theorem dX0_wasEpoch_24 : decode cX0_wasEpoch 24 = .ok (.ireturn, 1) := by decide +kernel
set_option maxRecDepth 20000 in
theorem ggX0_thresholdOf_X0_wasEpoch : GoodIn wsX0_thresholdOf wsX0_wasEpoch := goodIn_r _ [6, 7, 8, 9, 10, 11, 12, 13, 14, 15, 16, 17, 18, 19] (by decide +kernel) (by decide +kernel)
set_option maxRecDepth 20000 in
theorem gX0_thresholdOf_X0_wasEpoch : GoodIn wsX0_thresholdOf (wsV RX0 63 RX0 yX0_wasEpoch wsX0_wasEpoch) := goodIn_app (goodIn_of _ (by decide +kernel)) ggX0_thresholdOf_X0_wasEpoch
theorem dX0_thresholdOf_0 : decode cX0_thresholdOf 0 = .ok (.aload_n 0, 1) := by decide +kernel
theorem dX0_thresholdOf_1 : decode cX0_thresholdOf 1 = .ok (.iload_n 1, 1) := by decide +kernel
theorem dX0_thresholdOf_2 : decode cX0_thresholdOf 2 = .ok (.invokevirtual 63, 3) := by decide +kernel
theorem dX0_thresholdOf_5 : decode cX0_thresholdOf 5 = .ok (.ifCond .eq 12, 3) := by decide +kernel
theorem dX0_thresholdOf_8 : decode cX0_thresholdOf 8 = .ok (.aload_n 0, 1) := by decide +kernel
theorem dX0_thresholdOf_9 : decode cX0_thresholdOf 9 = .ok (.getfield 24, 3) := by decide +kernel
theorem dX0_thresholdOf_12 : decode cX0_thresholdOf 12 = .ok (.iload_n 1, 1) := by decide +kernel
theorem dX0_thresholdOf_13 : decode cX0_thresholdOf 13 = .ok (.iaload, 1) := by decide +kernel
theorem dX0_thresholdOf_14 : decode cX0_thresholdOf 14 = .ok (.goto 4, 3) := by decide +kernel
theorem dX0_thresholdOf_17 : decode cX0_thresholdOf 17 = .ok (.iconst 0, 1) := by decide +kernel
theorem dX0_thresholdOf_18 : decode cX0_thresholdOf 18 = .ok (.ireturn, 1) := by decide +kernel
set_option maxRecDepth 20000 in
theorem ggX0_beginEpoch_X0_isLastEpoch : GoodIn wsX0_beginEpoch wsX0_isLastEpoch := goodIn_r _ [8, 1, 9, 10, 11, 12, 13, 14, 15, 16, 17, 18, 19, 20] (by decide +kernel) (by decide +kernel)
set_option maxRecDepth 20000 in
theorem gX0_beginEpoch_X0_isLastEpoch : GoodIn wsX0_beginEpoch (wsV RX0 67 RX0 yX0_isLastEpoch wsX0_isLastEpoch) := goodIn_app (goodIn_of _ (by decide +kernel)) ggX0_beginEpoch_X0_isLastEpoch
theorem dX0_beginEpoch_0 : decode cX0_beginEpoch 0 = .ok (.aload_n 0, 1) := by decide +kernel
theorem dX0_beginEpoch_1 : decode cX0_beginEpoch 1 = .ok (.invokevirtual 67, 3) := by decide +kernel
theorem dX0_beginEpoch_4 : decode cX0_beginEpoch 4 = .ok (.ifCond .ne 28, 3) := by decide +kernel
theorem dX0_beginEpoch_7 : decode cX0_beginEpoch 7 = .ok (.aload_n 0, 1) := by decide +kernel
theorem dX0_beginEpoch_8 : decode cX0_beginEpoch 8 = .ok (.dup, 1) := by decide +kernel
theorem dX0_beginEpoch_9 : decode cX0_beginEpoch 9 = .ok (.getfield 41, 3) := by decide +kernel
theorem dX0_beginEpoch_12 : decode cX0_beginEpoch 12 = .ok (.iconst 1, 1) := by decide +kernel
theorem dX0_beginEpoch_13 : decode cX0_beginEpoch 13 = .ok (.iadd, 1) := by decide +kernel
theorem dX0_beginEpoch_14 : decode cX0_beginEpoch 14 = .ok (.putfield 41, 3) := by decide +kernel
theorem dX0_beginEpoch_17 : decode cX0_beginEpoch 17 = .ok (.aload_n 0, 1) := by decide +kernel
theorem dX0_beginEpoch_18 : decode cX0_beginEpoch 18 = .ok (.iload_n 1, 1) := by decide +kernel
theorem dX0_beginEpoch_19 : decode cX0_beginEpoch 19 = .ok (.putfield 38, 3) := by decide +kernel
theorem dX0_beginEpoch_22 : decode cX0_beginEpoch 22 = .ok (.aload_n 0, 1) := by decide +kernel
theorem dX0_beginEpoch_23 : decode cX0_beginEpoch 23 = .ok (.getfield 24, 3) := by decide +kernel
theorem dX0_beginEpoch_26 : decode cX0_beginEpoch 26 = .ok (.aload_n 0, 1) := by decide +kernel
theorem dX0_beginEpoch_27 : decode cX0_beginEpoch 27 = .ok (.getfield 41, 3) := by decide +kernel
theorem dX0_beginEpoch_30 : decode cX0_beginEpoch 30 = .ok (.iload_n 1, 1) := by decide +kernel
theorem dX0_beginEpoch_31 : decode cX0_beginEpoch 31 = .ok (.iastore, 1) := by decide +kernel
theorem dX0_beginEpoch_32 : decode cX0_beginEpoch 32 = .ok (.return_, 1) := by decide +kernel
theorem dX0_bend_0 : decode cX0_bend 0 = .ok (.aload_n 0, 1) := by decide +kernel
theorem dX0_bend_1 : decode cX0_bend 1 = .ok (.getfield 15, 3) := by decide +kernel
theorem dX0_bend_4 : decode cX0_bend 4 = .ok (.iload_n 1, 1) := by decide +kernel
theorem dX0_bend_5 : decode cX0_bend 5 = .ok (.iconst 5, 1) := by decide +kernel
theorem dX0_bend_6 : decode cX0_bend 6 = .ok (.imul, 1) := by decide +kernel
theorem dX0_bend_7 : decode cX0_bend 7 = .ok (.iload_n 2, 1) := by decide +kernel
theorem dX0_bend_8 : decode cX0_bend 8 = .ok (.iadd, 1) := by decide +kernel
theorem dX0_bend_9 : decode cX0_bend 9 = .ok (.iaload, 1) := by decide +kernel
theorem dX0_bend_10 : decode cX0_bend 10 = .ok (.ireturn, 1) := by decide +kernel
set_option maxRecDepth 20000 in
theorem ggX0_tells_X0_bend : GoodIn wsX0_tells wsX0_bend := goodIn_r _ [6, 7, 12, 13, 14, 15, 16, 17, 18, 19, 20, 21, 22, 23] (by decide +kernel) (by decide +kernel)
set_option maxRecDepth 20000 in
theorem gX0_tells_X0_bend : GoodIn wsX0_tells (wsV RX0 71 RX0 yX0_bend wsX0_bend) := goodIn_app (goodIn_of _ (by decide +kernel)) ggX0_tells_X0_bend
set_option maxRecDepth 20000 in
theorem ggX0_tells_X5_plus : GoodIn wsX0_tells wsX5_plus := goodIn_r _ [11] (by decide +kernel) (by decide +kernel)
set_option maxRecDepth 20000 in
theorem gX0_tells_X5_plus : GoodIn wsX0_tells (va_wsS RX0 75 yX5_plus wsX5_plus) := goodIn_app (goodIn_of _ (by decide +kernel)) ggX0_tells_X5_plus
theorem dX0_tells_0 : decode cX0_tells 0 = .ok (.aload_n 0, 1) := by decide +kernel
theorem dX0_tells_1 : decode cX0_tells 1 = .ok (.getfield 18, 3) := by decide +kernel
theorem dX0_tells_4 : decode cX0_tells 4 = .ok (.iload_n 1, 1) := by decide +kernel
theorem dX0_tells_5 : decode cX0_tells 5 = .ok (.iaload, 1) := by decide +kernel
theorem dX0_tells_6 : decode cX0_tells 6 = .ok (.aload_n 0, 1) := by decide +kernel
theorem dX0_tells_7 : decode cX0_tells 7 = .ok (.iload_n 1, 1) := by decide +kernel
theorem dX0_tells_8 : decode cX0_tells 8 = .ok (.iconst 0, 1) := by decide +kernel
theorem dX0_tells_9 : decode cX0_tells 9 = .ok (.invokevirtual 71, 3) := by decide +kernel
theorem dX0_tells_12 : decode cX0_tells 12 = .ok (.invokestatic 75, 3) := by decide +kernel
theorem dX0_tells_15 : decode cX0_tells 15 = .ok (.ireturn, 1) := by decide +kernel
set_option maxRecDepth 20000 in
theorem ggX0_firstLostEpoch_X1_victims : GoodIn wsX0_firstLostEpoch wsX1_victims := goodIn_r _ [6, 7, 8, 9, 10, 11, 12, 13, 44, 45, 46, 47] (by decide +kernel) (by decide +kernel)
set_option maxRecDepth 20000 in
theorem gX0_firstLostEpoch_X1_victims : GoodIn wsX0_firstLostEpoch (wsV RX0 86 RX1 yX1_victims wsX1_victims) := goodIn_app (goodIn_of _ (by decide +kernel)) ggX0_firstLostEpoch_X1_victims
set_option maxRecDepth 20000 in
theorem ggX0_firstLostEpoch_J6_bitCount_0f7a4 : GoodIn wsX0_firstLostEpoch wsJ6_bitCount_0f7a4 := goodIn_r _ [17, 18, 19, 20] (by decide +kernel) (by decide +kernel)
set_option maxRecDepth 20000 in
theorem gX0_firstLostEpoch_J6_bitCount_0f7a4 : GoodIn wsX0_firstLostEpoch (va_wsS RX0 90 yJ6_bitCount_0f7a4 wsJ6_bitCount_0f7a4) := goodIn_app (goodIn_of _ (by decide +kernel)) ggX0_firstLostEpoch_J6_bitCount_0f7a4
set_option maxRecDepth 20000 in
theorem ggX0_firstLostEpoch_X0_thresholdOf : GoodIn wsX0_firstLostEpoch wsX0_thresholdOf := goodIn_r _ [25, 26, 27, 28, 29, 24, 30, 31, 32, 33, 34, 35, 36, 37, 38, 39, 40, 41, 42, 43] (by decide +kernel) (by decide +kernel)
set_option maxRecDepth 20000 in
theorem gX0_firstLostEpoch_X0_thresholdOf : GoodIn wsX0_firstLostEpoch (wsV RX0 95 RX0 yX0_thresholdOf wsX0_thresholdOf) := goodIn_app (goodIn_of _ (by decide +kernel)) ggX0_firstLostEpoch_X0_thresholdOf
theorem dX0_firstLostEpoch_0 : decode cX0_firstLostEpoch 0 = .ok (.iconst 0, 1) := by decide +kernel
theorem dX0_firstLostEpoch_1 : decode cX0_firstLostEpoch 1 = .ok (.istore_n 1, 1) := by decide +kernel
theorem dX0_firstLostEpoch_2 : decode cX0_firstLostEpoch 2 = .ok (.iload_n 1, 1) := by decide +kernel
theorem dX0_firstLostEpoch_3 : decode cX0_firstLostEpoch 3 = .ok (.aload_n 0, 1) := by decide +kernel
theorem dX0_firstLostEpoch_4 : decode cX0_firstLostEpoch 4 = .ok (.getfield 30, 3) := by decide +kernel
theorem dX0_firstLostEpoch_7 : decode cX0_firstLostEpoch 7 = .ok (.getfield 80, 3) := by decide +kernel
theorem dX0_firstLostEpoch_10 : decode cX0_firstLostEpoch 10 = .ok (.if_icmp .ge 46, 3) := by decide +kernel
theorem dX0_firstLostEpoch_13 : decode cX0_firstLostEpoch 13 = .ok (.iload_n 1, 1) := by decide +kernel
theorem dX0_firstLostEpoch_14 : decode cX0_firstLostEpoch 14 = .ok (.bipush 24, 2) := by decide +kernel
theorem dX0_firstLostEpoch_16 : decode cX0_firstLostEpoch 16 = .ok (.if_icmp .ge 40, 3) := by decide +kernel
theorem dX0_firstLostEpoch_19 : decode cX0_firstLostEpoch 19 = .ok (.aload_n 0, 1) := by decide +kernel
theorem dX0_firstLostEpoch_20 : decode cX0_firstLostEpoch 20 = .ok (.getfield 30, 3) := by decide +kernel
theorem dX0_firstLostEpoch_23 : decode cX0_firstLostEpoch 23 = .ok (.getfield 83, 3) := by decide +kernel
theorem dX0_firstLostEpoch_26 : decode cX0_firstLostEpoch 26 = .ok (.iload_n 1, 1) := by decide +kernel
theorem dX0_firstLostEpoch_27 : decode cX0_firstLostEpoch 27 = .ok (.iaload, 1) := by decide +kernel
theorem dX0_firstLostEpoch_28 : decode cX0_firstLostEpoch 28 = .ok (.istore_n 2, 1) := by decide +kernel
theorem dX0_firstLostEpoch_29 : decode cX0_firstLostEpoch 29 = .ok (.aload_n 0, 1) := by decide +kernel
theorem dX0_firstLostEpoch_30 : decode cX0_firstLostEpoch 30 = .ok (.getfield 30, 3) := by decide +kernel
theorem dX0_firstLostEpoch_33 : decode cX0_firstLostEpoch 33 = .ok (.iload_n 2, 1) := by decide +kernel
theorem dX0_firstLostEpoch_34 : decode cX0_firstLostEpoch 34 = .ok (.invokevirtual 86, 3) := by decide +kernel
theorem dX0_firstLostEpoch_37 : decode cX0_firstLostEpoch 37 = .ok (.invokestatic 90, 3) := by decide +kernel
theorem dX0_firstLostEpoch_40 : decode cX0_firstLostEpoch 40 = .ok (.aload_n 0, 1) := by decide +kernel
theorem dX0_firstLostEpoch_41 : decode cX0_firstLostEpoch 41 = .ok (.iload_n 2, 1) := by decide +kernel
theorem dX0_firstLostEpoch_42 : decode cX0_firstLostEpoch 42 = .ok (.invokevirtual 95, 3) := by decide +kernel
theorem dX0_firstLostEpoch_45 : decode cX0_firstLostEpoch 45 = .ok (.if_icmp .lt 5, 3) := by decide +kernel
theorem dX0_firstLostEpoch_48 : decode cX0_firstLostEpoch 48 = .ok (.iload_n 2, 1) := by decide +kernel
theorem dX0_firstLostEpoch_49 : decode cX0_firstLostEpoch 49 = .ok (.ireturn, 1) := by decide +kernel
theorem dX0_firstLostEpoch_50 : decode cX0_firstLostEpoch 50 = .ok (.iinc 1 1, 3) := by decide +kernel
theorem dX0_firstLostEpoch_53 : decode cX0_firstLostEpoch 53 = .ok (.goto (-51), 3) := by decide +kernel
theorem dX0_firstLostEpoch_56 : decode cX0_firstLostEpoch 56 = .ok (.bipush (-6), 2) := by decide +kernel
theorem dX0_firstLostEpoch_58 : decode cX0_firstLostEpoch 58 = .ok (.ireturn, 1) := by decide +kernel
theorem dX1_init_0 : decode cX1_init 0 = .ok (.aload_n 0, 1) := by decide +kernel
theorem dX1_init_1 : decode cX1_init 1 = .ok (.invokespecial 3, 3) := by decide +kernel
theorem dX1_init_4 : decode cX1_init 4 = .ok (.aload_n 0, 1) := by decide +kernel
theorem dX1_init_5 : decode cX1_init 5 = .ok (.bipush 24, 2) := by decide +kernel
theorem dX1_init_7 : decode cX1_init 7 = .ok (.newarray .int, 2) := by decide +kernel
theorem dX1_init_9 : decode cX1_init 9 = .ok (.putfield 9, 3) := by decide +kernel
theorem dX1_init_12 : decode cX1_init 12 = .ok (.aload_n 0, 1) := by decide +kernel
theorem dX1_init_13 : decode cX1_init 13 = .ok (.bipush 24, 2) := by decide +kernel
theorem dX1_init_15 : decode cX1_init 15 = .ok (.newarray .int, 2) := by decide +kernel
theorem dX1_init_17 : decode cX1_init 17 = .ok (.putfield 15, 3) := by decide +kernel
theorem dX1_init_20 : decode cX1_init 20 = .ok (.aload_n 0, 1) := by decide +kernel
theorem dX1_init_21 : decode cX1_init 21 = .ok (.bipush 24, 2) := by decide +kernel
theorem dX1_init_23 : decode cX1_init 23 = .ok (.newarray .int, 2) := by decide +kernel
theorem dX1_init_25 : decode cX1_init 25 = .ok (.putfield 18, 3) := by decide +kernel
theorem dX1_init_28 : decode cX1_init 28 = .ok (.aload_n 0, 1) := by decide +kernel
theorem dX1_init_29 : decode cX1_init 29 = .ok (.iconst 0, 1) := by decide +kernel
theorem dX1_init_30 : decode cX1_init 30 = .ok (.putfield 21, 3) := by decide +kernel
theorem dX1_init_33 : decode cX1_init 33 = .ok (.return_, 1) := by decide +kernel
theorem dX1_copyFrom_0 : decode cX1_copyFrom 0 = .ok (.aload_n 1, 1) := by decide +kernel
theorem dX1_copyFrom_1 : decode cX1_copyFrom 1 = .ok (.getfield 9, 3) := by decide +kernel
theorem dX1_copyFrom_4 : decode cX1_copyFrom 4 = .ok (.iconst 0, 1) := by decide +kernel
theorem dX1_copyFrom_5 : decode cX1_copyFrom 5 = .ok (.aload_n 0, 1) := by decide +kernel
theorem dX1_copyFrom_6 : decode cX1_copyFrom 6 = .ok (.getfield 9, 3) := by decide +kernel
theorem dX1_copyFrom_9 : decode cX1_copyFrom 9 = .ok (.iconst 0, 1) := by decide +kernel
theorem dX1_copyFrom_10 : decode cX1_copyFrom 10 = .ok (.bipush 24, 2) := by decide +kernel
theorem dX1_copyFrom_12 : decode cX1_copyFrom 12 = .ok (.invokestatic 25, 3) := by decide +kernel
theorem dX1_copyFrom_15 : decode cX1_copyFrom 15 = .ok (.aload_n 1, 1) := by decide +kernel
theorem dX1_copyFrom_16 : decode cX1_copyFrom 16 = .ok (.getfield 15, 3) := by decide +kernel
theorem dX1_copyFrom_19 : decode cX1_copyFrom 19 = .ok (.iconst 0, 1) := by decide +kernel
theorem dX1_copyFrom_20 : decode cX1_copyFrom 20 = .ok (.aload_n 0, 1) := by decide +kernel
theorem dX1_copyFrom_21 : decode cX1_copyFrom 21 = .ok (.getfield 15, 3) := by decide +kernel
theorem dX1_copyFrom_24 : decode cX1_copyFrom 24 = .ok (.iconst 0, 1) := by decide +kernel
theorem dX1_copyFrom_25 : decode cX1_copyFrom 25 = .ok (.bipush 24, 2) := by decide +kernel
theorem dX1_copyFrom_27 : decode cX1_copyFrom 27 = .ok (.invokestatic 25, 3) := by decide +kernel
theorem dX1_copyFrom_30 : decode cX1_copyFrom 30 = .ok (.aload_n 1, 1) := by decide +kernel
theorem dX1_copyFrom_31 : decode cX1_copyFrom 31 = .ok (.getfield 18, 3) := by decide +kernel
theorem dX1_copyFrom_34 : decode cX1_copyFrom 34 = .ok (.iconst 0, 1) := by decide +kernel
theorem dX1_copyFrom_35 : decode cX1_copyFrom 35 = .ok (.aload_n 0, 1) := by decide +kernel
theorem dX1_copyFrom_36 : decode cX1_copyFrom 36 = .ok (.getfield 18, 3) := by decide +kernel
theorem dX1_copyFrom_39 : decode cX1_copyFrom 39 = .ok (.iconst 0, 1) := by decide +kernel
theorem dX1_copyFrom_40 : decode cX1_copyFrom 40 = .ok (.bipush 24, 2) := by decide +kernel
theorem dX1_copyFrom_42 : decode cX1_copyFrom 42 = .ok (.invokestatic 25, 3) := by decide +kernel
theorem dX1_copyFrom_45 : decode cX1_copyFrom 45 = .ok (.aload_n 0, 1) := by decide +kernel
theorem dX1_copyFrom_46 : decode cX1_copyFrom 46 = .ok (.aload_n 1, 1) := by decide +kernel
theorem dX1_copyFrom_47 : decode cX1_copyFrom 47 = .ok (.getfield 21, 3) := by decide +kernel
theorem dX1_copyFrom_50 : decode cX1_copyFrom 50 = .ok (.putfield 21, 3) := by decide +kernel
theorem dX1_copyFrom_53 : decode cX1_copyFrom 53 = .ok (.return_, 1) := by decide +kernel
theorem dX1_isFull_0 : decode cX1_isFull 0 = .ok (.aload_n 0, 1) := by decide +kernel
theorem dX1_isFull_1 : decode cX1_isFull 1 = .ok (.getfield 21, 3) := by decide +kernel
theorem dX1_isFull_4 : decode cX1_isFull 4 = .ok (.ifCond .lt 12, 3) := by decide +kernel
theorem dX1_isFull_7 : decode cX1_isFull 7 = .ok (.aload_n 0, 1) := by decide +kernel
theorem dX1_isFull_8 : decode cX1_isFull 8 = .ok (.getfield 21, 3) := by decide +kernel
theorem dX1_isFull_11 : decode cX1_isFull 11 = .ok (.bipush 24, 2) := by decide +kernel
theorem dX1_isFull_13 : decode cX1_isFull 13 = .ok (.if_icmp .lt 7, 3) := by decide +kernel
theorem dX1_isFull_16 : decode cX1_isFull 16 = .ok (.iconst 1, 1) := by decide +kernel
theorem dX1_isFull_17 : decode cX1_isFull 17 = .ok (.goto 4, 3) := by decide +kernel
theorem dX1_isFull_20 : decode cX1_isFull 20 = .ok (.iconst 0, 1) := by decide +kernel
theorem dX1_isFull_21 : decode cX1_isFull 21 = .ok (.ireturn, 1) := by decide +kernel
set_option maxRecDepth 20000 in
theorem ggX1_add_X1_isFull : GoodIn wsX1_add wsX1_isFull := goodIn_r _ [9, 2, 10, 11, 12, 13] (by decide +kernel) (by decide +kernel)
set_option maxRecDepth 20000 in
theorem gX1_add_X1_isFull : GoodIn wsX1_add (wsV RX1 31 RX1 yX1_isFull wsX1_isFull) := goodIn_app (goodIn_of _ (by decide +kernel)) ggX1_add_X1_isFull
theorem dX1_add_0 : decode cX1_add 0 = .ok (.aload_n 0, 1) := by decide +kernel
theorem dX1_add_1 : decode cX1_add 1 = .ok (.invokevirtual 31, 3) := by decide +kernel
theorem dX1_add_4 : decode cX1_add 4 = .ok (.ifCond .eq 4, 3) := by decide +kernel
theorem dX1_add_7 : decode cX1_add 7 = .ok (.return_, 1) := by decide +kernel
theorem dX1_add_8 : decode cX1_add 8 = .ok (.aload_n 0, 1) := by decide +kernel
theorem dX1_add_9 : decode cX1_add 9 = .ok (.getfield 9, 3) := by decide +kernel
theorem dX1_add_12 : decode cX1_add 12 = .ok (.aload_n 0, 1) := by decide +kernel
theorem dX1_add_13 : decode cX1_add 13 = .ok (.getfield 21, 3) := by decide +kernel
theorem dX1_add_16 : decode cX1_add 16 = .ok (.iload_n 1, 1) := by decide +kernel
theorem dX1_add_17 : decode cX1_add 17 = .ok (.iastore, 1) := by decide +kernel
theorem dX1_add_18 : decode cX1_add 18 = .ok (.aload_n 0, 1) := by decide +kernel
theorem dX1_add_19 : decode cX1_add 19 = .ok (.getfield 15, 3) := by decide +kernel
theorem dX1_add_22 : decode cX1_add 22 = .ok (.aload_n 0, 1) := by decide +kernel
theorem dX1_add_23 : decode cX1_add 23 = .ok (.getfield 21, 3) := by decide +kernel
theorem dX1_add_26 : decode cX1_add 26 = .ok (.iload_n 2, 1) := by decide +kernel
theorem dX1_add_27 : decode cX1_add 27 = .ok (.iastore, 1) := by decide +kernel
theorem dX1_add_28 : decode cX1_add 28 = .ok (.aload_n 0, 1) := by decide +kernel
theorem dX1_add_29 : decode cX1_add 29 = .ok (.getfield 18, 3) := by decide +kernel
theorem dX1_add_32 : decode cX1_add 32 = .ok (.aload_n 0, 1) := by decide +kernel
theorem dX1_add_33 : decode cX1_add 33 = .ok (.getfield 21, 3) := by decide +kernel
theorem dX1_add_36 : decode cX1_add 36 = .ok (.iload_n 3, 1) := by decide +kernel
theorem dX1_add_37 : decode cX1_add 37 = .ok (.iastore, 1) := by decide +kernel
theorem dX1_add_38 : decode cX1_add 38 = .ok (.aload_n 0, 1) := by decide +kernel
theorem dX1_add_39 : decode cX1_add 39 = .ok (.dup, 1) := by decide +kernel
theorem dX1_add_40 : decode cX1_add 40 = .ok (.getfield 21, 3) := by decide +kernel
theorem dX1_add_43 : decode cX1_add 43 = .ok (.iconst 1, 1) := by decide +kernel
theorem dX1_add_44 : decode cX1_add 44 = .ok (.iadd, 1) := by decide +kernel
theorem dX1_add_45 : decode cX1_add 45 = .ok (.putfield 21, 3) := by decide +kernel
theorem dX1_add_48 : decode cX1_add 48 = .ok (.return_, 1) := by decide +kernel
set_option maxRecDepth 20000 in
theorem ggX1_victims_X4_only : GoodIn wsX1_victims wsX4_only := goodIn_r _ [7] (by decide +kernel) (by decide +kernel)
set_option maxRecDepth 20000 in
theorem gX1_victims_X4_only : GoodIn wsX1_victims (va_wsS RX1 35 yX4_only wsX4_only) := goodIn_app (goodIn_of _ (by decide +kernel)) ggX1_victims_X4_only
theorem dX1_victims_0 : decode cX1_victims 0 = .ok (.iconst 0, 1) := by decide +kernel
theorem dX1_victims_1 : decode cX1_victims 1 = .ok (.istore_n 2, 1) := by decide +kernel
theorem dX1_victims_2 : decode cX1_victims 2 = .ok (.iconst 0, 1) := by decide +kernel
theorem dX1_victims_3 : decode cX1_victims 3 = .ok (.istore_n 3, 1) := by decide +kernel
theorem dX1_victims_4 : decode cX1_victims 4 = .ok (.iload_n 3, 1) := by decide +kernel
theorem dX1_victims_5 : decode cX1_victims 5 = .ok (.aload_n 0, 1) := by decide +kernel
theorem dX1_victims_6 : decode cX1_victims 6 = .ok (.getfield 21, 3) := by decide +kernel
theorem dX1_victims_9 : decode cX1_victims 9 = .ok (.if_icmp .ge 42, 3) := by decide +kernel
theorem dX1_victims_12 : decode cX1_victims 12 = .ok (.iload_n 3, 1) := by decide +kernel
theorem dX1_victims_13 : decode cX1_victims 13 = .ok (.bipush 24, 2) := by decide +kernel
end
section
theorem dX1_victims_15 : decode cX1_victims 15 = .ok (.if_icmp .ge 36, 3) := by decide +kernel
theorem dX1_victims_18 : decode cX1_victims 18 = .ok (.iload_n 1, 1) := by decide +kernel
theorem dX1_victims_19 : decode cX1_victims 19 = .ok (.iconst (-1), 1) := by decide +kernel
theorem dX1_victims_20 : decode cX1_victims 20 = .ok (.if_icmp .eq 13, 3) := by decide +kernel
theorem dX1_victims_23 : decode cX1_victims 23 = .ok (.aload_n 0, 1) := by decide +kernel
theorem dX1_victims_24 : decode cX1_victims 24 = .ok (.getfield 15, 3) := by decide +kernel
theorem dX1_victims_27 : decode cX1_victims 27 = .ok (.iload_n 3, 1) := by decide +kernel
theorem dX1_victims_28 : decode cX1_victims 28 = .ok (.iaload, 1) := by decide +kernel
theorem dX1_victims_29 : decode cX1_victims 29 = .ok (.iload_n 1, 1) := by decide +kernel
theorem dX1_victims_30 : decode cX1_victims 30 = .ok (.if_icmp .ne 15, 3) := by decide +kernel
theorem dX1_victims_33 : decode cX1_victims 33 = .ok (.iload_n 2, 1) := by decide +kernel
theorem dX1_victims_34 : decode cX1_victims 34 = .ok (.aload_n 0, 1) := by decide +kernel
theorem dX1_victims_35 : decode cX1_victims 35 = .ok (.getfield 9, 3) := by decide +kernel
theorem dX1_victims_38 : decode cX1_victims 38 = .ok (.iload_n 3, 1) := by decide +kernel
theorem dX1_victims_39 : decode cX1_victims 39 = .ok (.iaload, 1) := by decide +kernel
theorem dX1_victims_40 : decode cX1_victims 40 = .ok (.invokestatic 35, 3) := by decide +kernel
theorem dX1_victims_43 : decode cX1_victims 43 = .ok (.ior, 1) := by decide +kernel
theorem dX1_victims_44 : decode cX1_victims 44 = .ok (.istore_n 2, 1) := by decide +kernel
theorem dX1_victims_45 : decode cX1_victims 45 = .ok (.iinc 3 1, 3) := by decide +kernel
theorem dX1_victims_48 : decode cX1_victims 48 = .ok (.goto (-44), 3) := by decide +kernel
theorem dX1_victims_51 : decode cX1_victims 51 = .ok (.iload_n 2, 1) := by decide +kernel
theorem dX1_victims_52 : decode cX1_victims 52 = .ok (.ireturn, 1) := by decide +kernel
theorem dX1_firstShare_0 : decode cX1_firstShare 0 = .ok (.iconst 0, 1) := by decide +kernel
theorem dX1_firstShare_1 : decode cX1_firstShare 1 = .ok (.istore_n 3, 1) := by decide +kernel
theorem dX1_firstShare_2 : decode cX1_firstShare 2 = .ok (.iload_n 3, 1) := by decide +kernel
theorem dX1_firstShare_3 : decode cX1_firstShare 3 = .ok (.aload_n 0, 1) := by decide +kernel
theorem dX1_firstShare_4 : decode cX1_firstShare 4 = .ok (.getfield 21, 3) := by decide +kernel
theorem dX1_firstShare_7 : decode cX1_firstShare 7 = .ok (.if_icmp .ge 47, 3) := by decide +kernel
theorem dX1_firstShare_10 : decode cX1_firstShare 10 = .ok (.iload_n 3, 1) := by decide +kernel
theorem dX1_firstShare_11 : decode cX1_firstShare 11 = .ok (.bipush 24, 2) := by decide +kernel
theorem dX1_firstShare_13 : decode cX1_firstShare 13 = .ok (.if_icmp .ge 41, 3) := by decide +kernel
theorem dX1_firstShare_16 : decode cX1_firstShare 16 = .ok (.aload_n 0, 1) := by decide +kernel
theorem dX1_firstShare_17 : decode cX1_firstShare 17 = .ok (.getfield 9, 3) := by decide +kernel
theorem dX1_firstShare_20 : decode cX1_firstShare 20 = .ok (.iload_n 3, 1) := by decide +kernel
theorem dX1_firstShare_21 : decode cX1_firstShare 21 = .ok (.iaload, 1) := by decide +kernel
theorem dX1_firstShare_22 : decode cX1_firstShare 22 = .ok (.iload_n 1, 1) := by decide +kernel
theorem dX1_firstShare_23 : decode cX1_firstShare 23 = .ok (.if_icmp .ne 25, 3) := by decide +kernel
theorem dX1_firstShare_26 : decode cX1_firstShare 26 = .ok (.iload_n 2, 1) := by decide +kernel
theorem dX1_firstShare_27 : decode cX1_firstShare 27 = .ok (.iconst (-1), 1) := by decide +kernel
theorem dX1_firstShare_28 : decode cX1_firstShare 28 = .ok (.if_icmp .eq 13, 3) := by decide +kernel
theorem dX1_firstShare_31 : decode cX1_firstShare 31 = .ok (.aload_n 0, 1) := by decide +kernel
theorem dX1_firstShare_32 : decode cX1_firstShare 32 = .ok (.getfield 15, 3) := by decide +kernel
theorem dX1_firstShare_35 : decode cX1_firstShare 35 = .ok (.iload_n 3, 1) := by decide +kernel
theorem dX1_firstShare_36 : decode cX1_firstShare 36 = .ok (.iaload, 1) := by decide +kernel
theorem dX1_firstShare_37 : decode cX1_firstShare 37 = .ok (.iload_n 2, 1) := by decide +kernel
theorem dX1_firstShare_38 : decode cX1_firstShare 38 = .ok (.if_icmp .ne 10, 3) := by decide +kernel
theorem dX1_firstShare_41 : decode cX1_firstShare 41 = .ok (.aload_n 0, 1) := by decide +kernel
theorem dX1_firstShare_42 : decode cX1_firstShare 42 = .ok (.getfield 18, 3) := by decide +kernel
theorem dX1_firstShare_45 : decode cX1_firstShare 45 = .ok (.iload_n 3, 1) := by decide +kernel
theorem dX1_firstShare_46 : decode cX1_firstShare 46 = .ok (.iaload, 1) := by decide +kernel
theorem dX1_firstShare_47 : decode cX1_firstShare 47 = .ok (.ireturn, 1) := by decide +kernel
theorem dX1_firstShare_48 : decode cX1_firstShare 48 = .ok (.iinc 3 1, 3) := by decide +kernel
theorem dX1_firstShare_51 : decode cX1_firstShare 51 = .ok (.goto (-49), 3) := by decide +kernel
theorem dX1_firstShare_54 : decode cX1_firstShare 54 = .ok (.iconst 0, 1) := by decide +kernel
theorem dX1_firstShare_55 : decode cX1_firstShare 55 = .ok (.ireturn, 1) := by decide +kernel
set_option maxRecDepth 20000 in
theorem ggX2_init_X0_init : GoodIn wsX2_init wsX0_init := goodIn_r _ [16, 17, 2, 3, 8, 18, 19, 20, 21, 22, 23, 24, 25, 26, 27, 28, 29, 30, 31, 32, 33, 34, 35, 36, 37, 38, 39, 40, 41, 42, 43, 44, 45, 46, 47, 48, 49, 50, 51, 52, 59, 60, 61, 62] (by decide +kernel) (by decide +kernel)
set_option maxRecDepth 20000 in
theorem gX2_init_X0_init : GoodIn wsX2_init (wsX0_init) := ggX2_init_X0_init
theorem dX2_init_0 : decode cX2_init 0 = .ok (.aload_n 0, 1) := by decide +kernel
theorem dX2_init_1 : decode cX2_init 1 = .ok (.invokespecial 3, 3) := by decide +kernel
theorem dX2_init_4 : decode cX2_init 4 = .ok (.aload_n 0, 1) := by decide +kernel
theorem dX2_init_5 : decode cX2_init 5 = .ok (.new 9, 3) := by decide +kernel
theorem dX2_init_8 : decode cX2_init 8 = .ok (.dup, 1) := by decide +kernel
theorem dX2_init_9 : decode cX2_init 9 = .ok (.invokespecial 11, 3) := by decide +kernel
theorem dX2_init_12 : decode cX2_init 12 = .ok (.putfield 12, 3) := by decide +kernel
theorem dX2_init_15 : decode cX2_init 15 = .ok (.aload_n 0, 1) := by decide +kernel
theorem dX2_init_16 : decode cX2_init 16 = .ok (.bipush 8, 2) := by decide +kernel
theorem dX2_init_18 : decode cX2_init 18 = .ok (.newarray .int, 2) := by decide +kernel
theorem dX2_init_20 : decode cX2_init 20 = .ok (.putfield 18, 3) := by decide +kernel
theorem dX2_init_23 : decode cX2_init 23 = .ok (.aload_n 0, 1) := by decide +kernel
theorem dX2_init_24 : decode cX2_init 24 = .ok (.bipush 40, 2) := by decide +kernel
theorem dX2_init_26 : decode cX2_init 26 = .ok (.newarray .int, 2) := by decide +kernel
theorem dX2_init_28 : decode cX2_init 28 = .ok (.putfield 22, 3) := by decide +kernel
theorem dX2_init_31 : decode cX2_init 31 = .ok (.aload_n 0, 1) := by decide +kernel
theorem dX2_init_32 : decode cX2_init 32 = .ok (.iconst 5, 1) := by decide +kernel
theorem dX2_init_33 : decode cX2_init 33 = .ok (.newarray .int, 2) := by decide +kernel
theorem dX2_init_35 : decode cX2_init 35 = .ok (.putfield 25, 3) := by decide +kernel
theorem dX2_init_38 : decode cX2_init 38 = .ok (.aload_n 0, 1) := by decide +kernel
theorem dX2_init_39 : decode cX2_init 39 = .ok (.bipush 8, 2) := by decide +kernel
theorem dX2_init_41 : decode cX2_init 41 = .ok (.newarray .int, 2) := by decide +kernel
theorem dX2_init_43 : decode cX2_init 43 = .ok (.putfield 28, 3) := by decide +kernel
theorem dX2_init_46 : decode cX2_init 46 = .ok (.aload_n 0, 1) := by decide +kernel
theorem dX2_init_47 : decode cX2_init 47 = .ok (.iconst 0, 1) := by decide +kernel
theorem dX2_init_48 : decode cX2_init 48 = .ok (.putfield 31, 3) := by decide +kernel
theorem dX2_init_51 : decode cX2_init 51 = .ok (.return_, 1) := by decide +kernel
set_option maxRecDepth 20000 in
theorem ggX2_perform_X3_letter : GoodIn wsX2_perform wsX3_letter := goodIn_r _ [6, 7, 8, 9, 5, 10, 11, 12, 223, 224] (by decide +kernel) (by decide +kernel)
set_option maxRecDepth 20000 in
theorem gX2_perform_X3_letter : GoodIn wsX2_perform (wsV RX2 41 RX3 yX3_letter wsX3_letter) := goodIn_app (goodIn_of _ (by decide +kernel)) ggX2_perform_X3_letter
set_option maxRecDepth 20000 in
theorem ggX2_perform_X0_isDealt : GoodIn wsX2_perform wsX0_isDealt := goodIn_r _ [17, 18, 211, 212, 213, 214, 215, 216, 217, 218, 219, 220, 221, 222] (by decide +kernel) (by decide +kernel)
set_option maxRecDepth 20000 in
theorem gX2_perform_X0_isDealt : GoodIn wsX2_perform (wsV RX2 47 RX0 yX0_isDealt wsX0_isDealt) := goodIn_app (goodIn_of _ (by decide +kernel)) ggX2_perform_X0_isDealt
set_option maxRecDepth 20000 in
theorem ggX2_perform_X2_isFull : GoodIn wsX2_perform wsX2_isFull := goodIn_r _ [23, 1, 24, 25, 26, 16, 27, 18, 28, 29, 30, 31, 32, 33, 205, 206, 207, 208, 209, 210, 211, 212, 213, 214, 215, 216, 217, 218, 219, 220, 221, 222, 225, 226, 227, 228] (by decide +kernel) (by decide +kernel)
set_option maxRecDepth 20000 in
theorem gX2_perform_X2_isFull : GoodIn wsX2_perform (wsV RX2 51 RX2 yX2_isFull wsX2_isFull) := goodIn_app (goodIn_of _ (by decide +kernel)) ggX2_perform_X2_isFull
set_option maxRecDepth 20000 in
theorem ggX2_perform_X3_figureAt : GoodIn wsX2_perform wsX3_figureAt := goodIn_r _ [37, 7, 8, 9, 5, 10, 11, 12, 223, 224] (by decide +kernel) (by decide +kernel)
set_option maxRecDepth 20000 in
theorem gX2_perform_X3_figureAt : GoodIn wsX2_perform (wsV RX2 55 RX3 yX3_figureAt wsX3_figureAt) := goodIn_app (goodIn_of _ (by decide +kernel)) ggX2_perform_X3_figureAt
set_option maxRecDepth 20000 in
theorem ggX2_perform_X3_members : GoodIn wsX2_perform wsX3_members := goodIn_r _ [41, 11, 42, 43, 44, 5, 45, 46, 3, 4, 6, 7, 8, 9, 10, 12, 47, 35, 36, 37, 48, 49, 50, 51, 52, 53, 54, 223, 224] (by decide +kernel) (by decide +kernel)
set_option maxRecDepth 20000 in
theorem gX2_perform_X3_members : GoodIn wsX2_perform (wsV RX2 59 RX3 yX3_members wsX3_members) := goodIn_app (goodIn_of _ (by decide +kernel)) ggX2_perform_X3_members
set_option maxRecDepth 20000 in
theorem ggX2_perform_X2_deal : GoodIn wsX2_perform wsX2_deal := goodIn_r _ [58, 1, 59, 60, 61, 62, 63, 64, 65, 66, 67, 22, 68, 69, 70, 71, 72, 73, 74, 75, 76, 77, 78, 79, 80, 81, 16, 82, 18, 83, 84, 85, 25, 26, 27, 205, 206, 207, 208, 209, 210, 211, 212, 213, 214, 215, 216, 217, 218, 219, 220, 221, 222] (by decide +kernel) (by decide +kernel)
set_option maxRecDepth 20000 in
theorem gX2_perform_X2_deal : GoodIn wsX2_perform (wsV RX2 62 RX2 yX2_deal wsX2_deal) := goodIn_app (goodIn_of _ (by decide +kernel)) ggX2_perform_X2_deal
set_option maxRecDepth 20000 in
theorem ggX2_perform_X2_fresh : GoodIn wsX2_perform wsX2_fresh := goodIn_r _ [89, 1, 90, 91, 92, 93, 53, 94, 95, 96, 97, 22, 98, 99, 100, 59, 60, 61, 62, 63, 64, 65, 101, 102, 103, 104, 105, 106, 107, 16, 108, 109, 66, 67, 68, 69, 70, 71, 72, 73, 74, 75, 76, 77, 78, 110, 111, 112, 113, 114, 115, 116, 117, 118, 52, 54, 119, 120, 121, 122, 123, 124, 125, 126, 127, 128, 129, 130, 131, 132, 79, 80, 81, 82, 18, 83, 84, 85, 25, 26, 27, 133, 134, 135, 136, 137, 138, 139, 205, 206, 207, 208, 209, 210, 211, 212, 213, 214, 215, 216, 217, 218, 219, 220, 221, 222] (by decide +kernel) (by decide +kernel)
set_option maxRecDepth 20000 in
theorem gX2_perform_X2_fresh : GoodIn wsX2_perform (wsV RX2 65 RX2 yX2_fresh wsX2_fresh) := goodIn_app (goodIn_of _ (by decide +kernel)) ggX2_perform_X2_fresh
set_option maxRecDepth 20000 in
theorem ggX2_perform_X2_openedByThose : GoodIn wsX2_perform wsX2_openedByThose := goodIn_r _ [143, 1, 144, 92, 93, 53, 94, 145, 146, 147, 22, 148, 149, 150, 151, 16, 152, 153, 154, 106, 107, 108, 109, 155, 77, 61, 78, 110, 111, 112, 113, 70, 71, 72, 63, 64, 65, 114, 115, 116, 117, 60, 62, 118, 52, 54, 133, 134, 135, 136, 137, 138, 139, 156, 157, 158, 159, 160, 161, 162, 163, 164, 165, 166, 167, 168, 169, 170, 171, 74, 75, 172, 173, 174, 175, 205, 206, 207, 208, 209, 210, 211, 212, 213, 214, 215, 216, 217, 218, 219, 220, 221, 222] (by decide +kernel) (by decide +kernel)
set_option maxRecDepth 20000 in
theorem gX2_perform_X2_openedByThose : GoodIn wsX2_perform (wsV RX2 68 RX2 yX2_openedByThose wsX2_openedByThose) := goodIn_app (goodIn_of _ (by decide +kernel)) ggX2_perform_X2_openedByThose
set_option maxRecDepth 20000 in
theorem ggX2_perform_X2_lose : GoodIn wsX2_perform wsX2_lose := goodIn_r _ [179, 1, 118, 52, 53, 54, 133, 134, 135, 136, 137, 138, 139, 205, 206, 207, 208, 209, 210, 211, 212, 213, 214, 215, 216, 217, 218, 219, 220, 221, 222] (by decide +kernel) (by decide +kernel)
set_option maxRecDepth 20000 in
theorem gX2_perform_X2_lose : GoodIn wsX2_perform (wsV RX2 72 RX2 yX2_lose wsX2_lose) := goodIn_app (goodIn_of _ (by decide +kernel)) ggX2_perform_X2_lose
set_option maxRecDepth 20000 in
theorem ggX2_perform_X2_rebuild : GoodIn wsX2_perform wsX2_rebuild := goodIn_r _ [183, 1, 48, 49, 50, 92, 93, 53, 94, 140, 141, 142, 22, 143, 144, 145, 146, 147, 148, 149, 150, 151, 16, 152, 153, 154, 106, 107, 108, 109, 155, 77, 61, 78, 110, 111, 112, 113, 70, 71, 72, 63, 64, 65, 114, 115, 116, 117, 60, 62, 118, 52, 54, 133, 134, 135, 136, 137, 138, 139, 156, 157, 158, 159, 160, 161, 162, 163, 164, 165, 166, 167, 168, 169, 170, 171, 74, 75, 172, 173, 174, 175, 205, 206, 207, 208, 209, 210, 211, 212, 213, 214, 215, 216, 217, 218, 219, 220, 221, 222] (by decide +kernel) (by decide +kernel)
set_option maxRecDepth 20000 in
theorem gX2_perform_X2_rebuild : GoodIn wsX2_perform (wsV RX2 75 RX2 yX2_rebuild wsX2_rebuild) := goodIn_app (goodIn_of _ (by decide +kernel)) ggX2_perform_X2_rebuild
set_option maxRecDepth 20000 in
theorem ggX2_perform_X2_move : GoodIn wsX2_perform wsX2_move := goodIn_r _ [187, 1, 90, 144, 91, 133, 134, 135, 136, 137, 138, 139, 92, 93, 53, 94, 145, 146, 147, 22, 148, 149, 150, 151, 16, 152, 153, 154, 106, 107, 108, 109, 155, 77, 61, 78, 110, 111, 112, 113, 70, 71, 72, 63, 64, 65, 114, 115, 116, 117, 60, 62, 118, 52, 54, 95, 96, 97, 98, 99, 100, 59, 101, 102, 103, 104, 105, 66, 67, 68, 69, 73, 74, 75, 76, 188, 166, 167, 164, 168, 169, 170, 171, 172, 173, 174, 189, 190, 191, 192, 119, 120, 121, 122, 123, 124, 125, 126, 127, 128, 129, 130, 131, 132, 79, 80, 81, 82, 18, 83, 84, 85, 25, 26, 27, 205, 206, 207, 208, 209, 210, 211, 212, 213, 214, 215, 216, 217, 218, 219, 220, 221, 222] (by decide +kernel) (by decide +kernel)
set_option maxRecDepth 20000 in
theorem gX2_perform_X2_move : GoodIn wsX2_perform (wsV RX2 78 RX2 yX2_move wsX2_move) := goodIn_app (goodIn_of _ (by decide +kernel)) ggX2_perform_X2_move
set_option maxRecDepth 20000 in
theorem ggX2_perform_X2_steal : GoodIn wsX2_perform wsX2_steal := goodIn_r _ [196, 1, 48, 49, 50, 92, 93, 53, 94, 197, 198, 199, 31, 200, 201, 33, 202, 203, 204, 29, 30, 32, 205, 206, 207, 208, 209, 210, 211, 212, 213, 214, 215, 216, 217, 218, 219, 220, 221, 222, 225, 226, 227, 228] (by decide +kernel) (by decide +kernel)
set_option maxRecDepth 20000 in
theorem gX2_perform_X2_steal : GoodIn wsX2_perform (wsV RX2 81 RX2 yX2_steal wsX2_steal) := goodIn_app (goodIn_of _ (by decide +kernel)) ggX2_perform_X2_steal
theorem dX2_perform_0 : decode cX2_perform 0 = .ok (.aload_n 0, 1) := by decide +kernel
theorem dX2_perform_1 : decode cX2_perform 1 = .ok (.getfield 12, 3) := by decide +kernel
theorem dX2_perform_4 : decode cX2_perform 4 = .ok (.iconst 0, 1) := by decide +kernel
theorem dX2_perform_5 : decode cX2_perform 5 = .ok (.putfield 35, 3) := by decide +kernel
theorem dX2_perform_8 : decode cX2_perform 8 = .ok (.aload_n 0, 1) := by decide +kernel
theorem dX2_perform_9 : decode cX2_perform 9 = .ok (.getfield 12, 3) := by decide +kernel
theorem dX2_perform_12 : decode cX2_perform 12 = .ok (.iconst 0, 1) := by decide +kernel
theorem dX2_perform_13 : decode cX2_perform 13 = .ok (.putfield 38, 3) := by decide +kernel
theorem dX2_perform_16 : decode cX2_perform 16 = .ok (.aload_n 1, 1) := by decide +kernel
theorem dX2_perform_17 : decode cX2_perform 17 = .ok (.invokevirtual 41, 3) := by decide +kernel
theorem dX2_perform_20 : decode cX2_perform 20 = .ok (.istore_n 2, 1) := by decide +kernel
theorem dX2_perform_21 : decode cX2_perform 21 = .ok (.iload_n 2, 1) := by decide +kernel
theorem dX2_perform_22 : decode cX2_perform 22 = .ok (.bipush 100, 2) := by decide +kernel
theorem dX2_perform_24 : decode cX2_perform 24 = .ok (.if_icmp .eq 16, 3) := by decide +kernel
theorem dX2_perform_27 : decode cX2_perform 27 = .ok (.aload_n 0, 1) := by decide +kernel
theorem dX2_perform_28 : decode cX2_perform 28 = .ok (.getfield 12, 3) := by decide +kernel
theorem dX2_perform_31 : decode cX2_perform 31 = .ok (.invokevirtual 47, 3) := by decide +kernel
theorem dX2_perform_34 : decode cX2_perform 34 = .ok (.ifCond .ne 6, 3) := by decide +kernel
theorem dX2_perform_37 : decode cX2_perform 37 = .ok (.bipush (-3), 2) := by decide +kernel
theorem dX2_perform_39 : decode cX2_perform 39 = .ok (.ireturn, 1) := by decide +kernel
theorem dX2_perform_40 : decode cX2_perform 40 = .ok (.aload_n 0, 1) := by decide +kernel
theorem dX2_perform_41 : decode cX2_perform 41 = .ok (.iload_n 2, 1) := by decide +kernel
theorem dX2_perform_42 : decode cX2_perform 42 = .ok (.invokevirtual 51, 3) := by decide +kernel
theorem dX2_perform_45 : decode cX2_perform 45 = .ok (.ifCond .eq 6, 3) := by decide +kernel
theorem dX2_perform_48 : decode cX2_perform 48 = .ok (.bipush (-4), 2) := by decide +kernel
theorem dX2_perform_50 : decode cX2_perform 50 = .ok (.ireturn, 1) := by decide +kernel
theorem dX2_perform_51 : decode cX2_perform 51 = .ok (.aload_n 1, 1) := by decide +kernel
theorem dX2_perform_52 : decode cX2_perform 52 = .ok (.iconst 1, 1) := by decide +kernel
theorem dX2_perform_53 : decode cX2_perform 53 = .ok (.invokevirtual 55, 3) := by decide +kernel
theorem dX2_perform_56 : decode cX2_perform 56 = .ok (.istore_n 3, 1) := by decide +kernel
theorem dX2_perform_57 : decode cX2_perform 57 = .ok (.aload_n 1, 1) := by decide +kernel
theorem dX2_perform_58 : decode cX2_perform 58 = .ok (.invokevirtual 59, 3) := by decide +kernel
theorem dX2_perform_61 : decode cX2_perform 61 = .ok (.istore 4, 2) := by decide +kernel
theorem dX2_perform_63 : decode cX2_perform 63 = .ok (.iload_n 2, 1) := by decide +kernel
theorem dX2_perform_64 : decode cX2_perform 64 = .ok (.tableswitch 151 98 119 #[129, 151, 104, 151, 110, 151, 151, 151, 151, 151, 151, 151, 151, 115, 151, 151, 151, 145, 137, 151, 151, 123], 104) := by decide +kernel
theorem dX2_perform_168 : decode cX2_perform 168 = .ok (.aload_n 0, 1) := by decide +kernel
theorem dX2_perform_169 : decode cX2_perform 169 = .ok (.iload_n 3, 1) := by decide +kernel
theorem dX2_perform_170 : decode cX2_perform 170 = .ok (.invokevirtual 62, 3) := by decide +kernel
theorem dX2_perform_173 : decode cX2_perform 173 = .ok (.ireturn, 1) := by decide +kernel
theorem dX2_perform_174 : decode cX2_perform 174 = .ok (.aload_n 0, 1) := by decide +kernel
theorem dX2_perform_175 : decode cX2_perform 175 = .ok (.invokevirtual 65, 3) := by decide +kernel
theorem dX2_perform_178 : decode cX2_perform 178 = .ok (.ireturn, 1) := by decide +kernel
theorem dX2_perform_179 : decode cX2_perform 179 = .ok (.aload_n 0, 1) := by decide +kernel
theorem dX2_perform_180 : decode cX2_perform 180 = .ok (.iload 4, 2) := by decide +kernel
theorem dX2_perform_182 : decode cX2_perform 182 = .ok (.iconst 0, 1) := by decide +kernel
theorem dX2_perform_183 : decode cX2_perform 183 = .ok (.invokevirtual 68, 3) := by decide +kernel
theorem dX2_perform_186 : decode cX2_perform 186 = .ok (.ireturn, 1) := by decide +kernel
theorem dX2_perform_187 : decode cX2_perform 187 = .ok (.aload_n 0, 1) := by decide +kernel
theorem dX2_perform_188 : decode cX2_perform 188 = .ok (.iload_n 3, 1) := by decide +kernel
theorem dX2_perform_189 : decode cX2_perform 189 = .ok (.invokevirtual 72, 3) := by decide +kernel
theorem dX2_perform_192 : decode cX2_perform 192 = .ok (.ireturn, 1) := by decide +kernel
theorem dX2_perform_193 : decode cX2_perform 193 = .ok (.aload_n 0, 1) := by decide +kernel
theorem dX2_perform_194 : decode cX2_perform 194 = .ok (.iload_n 3, 1) := by decide +kernel
theorem dX2_perform_195 : decode cX2_perform 195 = .ok (.iload 4, 2) := by decide +kernel
theorem dX2_perform_197 : decode cX2_perform 197 = .ok (.invokevirtual 75, 3) := by decide +kernel
theorem dX2_perform_200 : decode cX2_perform 200 = .ok (.ireturn, 1) := by decide +kernel
theorem dX2_perform_201 : decode cX2_perform 201 = .ok (.aload_n 0, 1) := by decide +kernel
theorem dX2_perform_202 : decode cX2_perform 202 = .ok (.iload_n 3, 1) := by decide +kernel
theorem dX2_perform_203 : decode cX2_perform 203 = .ok (.iload 4, 2) := by decide +kernel
theorem dX2_perform_205 : decode cX2_perform 205 = .ok (.invokevirtual 78, 3) := by decide +kernel
theorem dX2_perform_208 : decode cX2_perform 208 = .ok (.ireturn, 1) := by decide +kernel
theorem dX2_perform_209 : decode cX2_perform 209 = .ok (.aload_n 0, 1) := by decide +kernel
theorem dX2_perform_210 : decode cX2_perform 210 = .ok (.iload_n 3, 1) := by decide +kernel
theorem dX2_perform_211 : decode cX2_perform 211 = .ok (.invokevirtual 81, 3) := by decide +kernel
theorem dX2_perform_214 : decode cX2_perform 214 = .ok (.ireturn, 1) := by decide +kernel
theorem dX2_perform_215 : decode cX2_perform 215 = .ok (.bipush (-7), 2) := by decide +kernel
theorem dX2_perform_217 : decode cX2_perform 217 = .ok (.ireturn, 1) := by decide +kernel
set_option maxRecDepth 20000 in
theorem ggX2_isFull_X0_isLastEpoch : GoodIn wsX2_isFull wsX0_isLastEpoch := goodIn_r _ [6, 7, 20, 21, 22, 23, 24, 25, 26, 27, 28, 29, 30, 31] (by decide +kernel) (by decide +kernel)
set_option maxRecDepth 20000 in
theorem gX2_isFull_X0_isLastEpoch : GoodIn wsX2_isFull (wsV RX2 84 RX0 yX0_isLastEpoch wsX0_isLastEpoch) := goodIn_app (goodIn_of _ (by decide +kernel)) ggX2_isFull_X0_isLastEpoch
set_option maxRecDepth 20000 in
theorem ggX2_isFull_X1_isFull : GoodIn wsX2_isFull wsX1_isFull := goodIn_r _ [12, 13, 32, 33, 34, 35] (by decide +kernel) (by decide +kernel)
set_option maxRecDepth 20000 in
theorem gX2_isFull_X1_isFull : GoodIn wsX2_isFull (wsV RX2 91 RX1 yX1_isFull wsX1_isFull) := goodIn_app (goodIn_of _ (by decide +kernel)) ggX2_isFull_X1_isFull
theorem dX2_isFull_0 : decode cX2_isFull 0 = .ok (.iload_n 1, 1) := by decide +kernel
theorem dX2_isFull_1 : decode cX2_isFull 1 = .ok (.lookupswitch 62 #[(100, 43), (102, 43), (115, 51), (116, 43)], 43) := by decide +kernel
theorem dX2_isFull_44 : decode cX2_isFull 44 = .ok (.aload_n 0, 1) := by decide +kernel
theorem dX2_isFull_45 : decode cX2_isFull 45 = .ok (.getfield 12, 3) := by decide +kernel
theorem dX2_isFull_48 : decode cX2_isFull 48 = .ok (.invokevirtual 84, 3) := by decide +kernel
theorem dX2_isFull_51 : decode cX2_isFull 51 = .ok (.ireturn, 1) := by decide +kernel
theorem dX2_isFull_52 : decode cX2_isFull 52 = .ok (.aload_n 0, 1) := by decide +kernel
theorem dX2_isFull_53 : decode cX2_isFull 53 = .ok (.getfield 12, 3) := by decide +kernel
theorem dX2_isFull_56 : decode cX2_isFull 56 = .ok (.getfield 87, 3) := by decide +kernel
theorem dX2_isFull_59 : decode cX2_isFull 59 = .ok (.invokevirtual 91, 3) := by decide +kernel
theorem dX2_isFull_62 : decode cX2_isFull 62 = .ok (.ireturn, 1) := by decide +kernel
theorem dX2_isFull_63 : decode cX2_isFull 63 = .ok (.iconst 0, 1) := by decide +kernel
theorem dX2_isFull_64 : decode cX2_isFull 64 = .ok (.ireturn, 1) := by decide +kernel
set_option maxRecDepth 20000 in
theorem ggX2_deal_X5_sealOf : GoodIn wsX2_deal wsX5_sealOf := goodIn_r _ [5, 6, 7, 4, 8] (by decide +kernel) (by decide +kernel)
set_option maxRecDepth 20000 in
theorem gX2_deal_X5_sealOf : GoodIn wsX2_deal (va_wsS RX2 101 yX5_sealOf wsX5_sealOf) := goodIn_app (goodIn_of _ (by decide +kernel)) ggX2_deal_X5_sealOf
set_option maxRecDepth 20000 in
theorem ggX2_deal_X2_polynomialAt : GoodIn wsX2_deal wsX2_polynomialAt := goodIn_r _ [12, 13, 14, 15, 16, 17, 18, 4, 19, 20, 21, 22] (by decide +kernel) (by decide +kernel)
set_option maxRecDepth 20000 in
theorem gX2_deal_X2_polynomialAt : GoodIn wsX2_deal (va_wsS RX2 109 yX2_polynomialAt wsX2_polynomialAt) := goodIn_app (goodIn_of _ (by decide +kernel)) ggX2_deal_X2_polynomialAt
set_option maxRecDepth 20000 in
theorem ggX2_deal_X0_beginEpoch : GoodIn wsX2_deal wsX0_beginEpoch := goodIn_r _ [27, 28, 29, 30, 31, 32, 33, 26, 34, 41, 42, 43, 44, 45, 46, 47, 48, 49, 50, 51, 52] (by decide +kernel) (by decide +kernel)
set_option maxRecDepth 20000 in
theorem gX2_deal_X0_beginEpoch : GoodIn wsX2_deal (wsV RX2 116 RX0 yX0_beginEpoch wsX0_beginEpoch) := goodIn_app (goodIn_of _ (by decide +kernel)) ggX2_deal_X0_beginEpoch
theorem dX2_deal_0 : decode cX2_deal 0 = .ok (.iconst 0, 1) := by decide +kernel
theorem dX2_deal_1 : decode cX2_deal 1 = .ok (.istore_n 2, 1) := by decide +kernel
theorem dX2_deal_2 : decode cX2_deal 2 = .ok (.iload_n 2, 1) := by decide +kernel
theorem dX2_deal_3 : decode cX2_deal 3 = .ok (.iload_n 1, 1) := by decide +kernel
theorem dX2_deal_4 : decode cX2_deal 4 = .ok (.if_icmp .ge 37, 3) := by decide +kernel
theorem dX2_deal_7 : decode cX2_deal 7 = .ok (.iload_n 2, 1) := by decide +kernel
theorem dX2_deal_8 : decode cX2_deal 8 = .ok (.iconst 5, 1) := by decide +kernel
theorem dX2_deal_9 : decode cX2_deal 9 = .ok (.if_icmp .ge 32, 3) := by decide +kernel
theorem dX2_deal_12 : decode cX2_deal 12 = .ok (.aload_n 0, 1) := by decide +kernel
theorem dX2_deal_13 : decode cX2_deal 13 = .ok (.getfield 12, 3) := by decide +kernel
theorem dX2_deal_16 : decode cX2_deal 16 = .ok (.getfield 95, 3) := by decide +kernel
theorem dX2_deal_19 : decode cX2_deal 19 = .ok (.iload_n 2, 1) := by decide +kernel
theorem dX2_deal_20 : decode cX2_deal 20 = .ok (.aload_n 0, 1) := by decide +kernel
theorem dX2_deal_21 : decode cX2_deal 21 = .ok (.getfield 12, 3) := by decide +kernel
theorem dX2_deal_24 : decode cX2_deal 24 = .ok (.getfield 98, 3) := by decide +kernel
theorem dX2_deal_27 : decode cX2_deal 27 = .ok (.iconst 0, 1) := by decide +kernel
theorem dX2_deal_28 : decode cX2_deal 28 = .ok (.iload_n 2, 1) := by decide +kernel
theorem dX2_deal_29 : decode cX2_deal 29 = .ok (.iadd, 1) := by decide +kernel
theorem dX2_deal_30 : decode cX2_deal 30 = .ok (.iaload, 1) := by decide +kernel
theorem dX2_deal_31 : decode cX2_deal 31 = .ok (.invokestatic 101, 3) := by decide +kernel
theorem dX2_deal_34 : decode cX2_deal 34 = .ok (.iastore, 1) := by decide +kernel
theorem dX2_deal_35 : decode cX2_deal 35 = .ok (.iinc 2 1, 3) := by decide +kernel
theorem dX2_deal_38 : decode cX2_deal 38 = .ok (.goto (-36), 3) := by decide +kernel
theorem dX2_deal_41 : decode cX2_deal 41 = .ok (.iconst 1, 1) := by decide +kernel
theorem dX2_deal_42 : decode cX2_deal 42 = .ok (.istore_n 2, 1) := by decide +kernel
theorem dX2_deal_43 : decode cX2_deal 43 = .ok (.iload_n 2, 1) := by decide +kernel
theorem dX2_deal_44 : decode cX2_deal 44 = .ok (.bipush 7, 2) := by decide +kernel
theorem dX2_deal_46 : decode cX2_deal 46 = .ok (.if_icmp .gt 31, 3) := by decide +kernel
theorem dX2_deal_49 : decode cX2_deal 49 = .ok (.aload_n 0, 1) := by decide +kernel
theorem dX2_deal_50 : decode cX2_deal 50 = .ok (.getfield 12, 3) := by decide +kernel
theorem dX2_deal_53 : decode cX2_deal 53 = .ok (.getfield 106, 3) := by decide +kernel
theorem dX2_deal_56 : decode cX2_deal 56 = .ok (.iload_n 2, 1) := by decide +kernel
theorem dX2_deal_57 : decode cX2_deal 57 = .ok (.aload_n 0, 1) := by decide +kernel
theorem dX2_deal_58 : decode cX2_deal 58 = .ok (.getfield 12, 3) := by decide +kernel
theorem dX2_deal_61 : decode cX2_deal 61 = .ok (.getfield 98, 3) := by decide +kernel
theorem dX2_deal_64 : decode cX2_deal 64 = .ok (.iconst 0, 1) := by decide +kernel
theorem dX2_deal_65 : decode cX2_deal 65 = .ok (.iload_n 1, 1) := by decide +kernel
theorem dX2_deal_66 : decode cX2_deal 66 = .ok (.iload_n 2, 1) := by decide +kernel
theorem dX2_deal_67 : decode cX2_deal 67 = .ok (.invokestatic 109, 3) := by decide +kernel
theorem dX2_deal_70 : decode cX2_deal 70 = .ok (.iastore, 1) := by decide +kernel
theorem dX2_deal_71 : decode cX2_deal 71 = .ok (.iinc 2 1, 3) := by decide +kernel
theorem dX2_deal_74 : decode cX2_deal 74 = .ok (.goto (-31), 3) := by decide +kernel
theorem dX2_deal_77 : decode cX2_deal 77 = .ok (.aload_n 0, 1) := by decide +kernel
theorem dX2_deal_78 : decode cX2_deal 78 = .ok (.getfield 12, 3) := by decide +kernel
theorem dX2_deal_81 : decode cX2_deal 81 = .ok (.sipush 254, 3) := by decide +kernel
theorem dX2_deal_84 : decode cX2_deal 84 = .ok (.putfield 113, 3) := by decide +kernel
theorem dX2_deal_87 : decode cX2_deal 87 = .ok (.aload_n 0, 1) := by decide +kernel
theorem dX2_deal_88 : decode cX2_deal 88 = .ok (.getfield 12, 3) := by decide +kernel
theorem dX2_deal_91 : decode cX2_deal 91 = .ok (.iload_n 1, 1) := by decide +kernel
theorem dX2_deal_92 : decode cX2_deal 92 = .ok (.invokevirtual 116, 3) := by decide +kernel
theorem dX2_deal_95 : decode cX2_deal 95 = .ok (.iconst 1, 1) := by decide +kernel
theorem dX2_deal_96 : decode cX2_deal 96 = .ok (.ireturn, 1) := by decide +kernel
set_option maxRecDepth 20000 in
theorem ggX2_lose_X4_only : GoodIn wsX2_lose wsX4_only := goodIn_r _ [5] (by decide +kernel) (by decide +kernel)
set_option maxRecDepth 20000 in
theorem gX2_lose_X4_only : GoodIn wsX2_lose (va_wsS RX2 120 yX4_only wsX4_only) := goodIn_app (goodIn_of _ (by decide +kernel)) ggX2_lose_X4_only
set_option maxRecDepth 20000 in
theorem ggX2_lose_J6_bitCount_0f7a4 : GoodIn wsX2_lose wsJ6_bitCount_0f7a4 := goodIn_r _ [9, 10, 11, 12] (by decide +kernel) (by decide +kernel)
set_option maxRecDepth 20000 in
theorem gX2_lose_J6_bitCount_0f7a4 : GoodIn wsX2_lose (va_wsS RX2 125 yJ6_bitCount_0f7a4 wsJ6_bitCount_0f7a4) := goodIn_app (goodIn_of _ (by decide +kernel)) ggX2_lose_J6_bitCount_0f7a4
theorem dX2_lose_0 : decode cX2_lose 0 = .ok (.aload_n 0, 1) := by decide +kernel
theorem dX2_lose_1 : decode cX2_lose 1 = .ok (.getfield 12, 3) := by decide +kernel
theorem dX2_lose_4 : decode cX2_lose 4 = .ok (.dup, 1) := by decide +kernel
theorem dX2_lose_5 : decode cX2_lose 5 = .ok (.getfield 113, 3) := by decide +kernel
theorem dX2_lose_8 : decode cX2_lose 8 = .ok (.iload_n 1, 1) := by decide +kernel
theorem dX2_lose_9 : decode cX2_lose 9 = .ok (.invokestatic 120, 3) := by decide +kernel
theorem dX2_lose_12 : decode cX2_lose 12 = .ok (.iconst (-1), 1) := by decide +kernel
theorem dX2_lose_13 : decode cX2_lose 13 = .ok (.ixor, 1) := by decide +kernel
theorem dX2_lose_14 : decode cX2_lose 14 = .ok (.iand, 1) := by decide +kernel
theorem dX2_lose_15 : decode cX2_lose 15 = .ok (.putfield 113, 3) := by decide +kernel
theorem dX2_lose_18 : decode cX2_lose 18 = .ok (.aload_n 0, 1) := by decide +kernel
theorem dX2_lose_19 : decode cX2_lose 19 = .ok (.getfield 12, 3) := by decide +kernel
theorem dX2_lose_22 : decode cX2_lose 22 = .ok (.getfield 113, 3) := by decide +kernel
theorem dX2_lose_25 : decode cX2_lose 25 = .ok (.invokestatic 125, 3) := by decide +kernel
theorem dX2_lose_28 : decode cX2_lose 28 = .ok (.ireturn, 1) := by decide +kernel
set_option maxRecDepth 20000 in
theorem ggX2_openedByThose_X4_has : GoodIn wsX2_openedByThose wsX4_has := goodIn_r _ [6] (by decide +kernel) (by decide +kernel)
set_option maxRecDepth 20000 in
theorem gX2_openedByThose_X4_has : GoodIn wsX2_openedByThose (va_wsS RX2 130 yX4_has wsX4_has) := goodIn_app (goodIn_of _ (by decide +kernel)) ggX2_openedByThose_X4_has
set_option maxRecDepth 20000 in
theorem ggX2_openedByThose_X2_hear : GoodIn wsX2_openedByThose wsX2_hear := goodIn_r _ [11, 2, 1, 12, 13, 14, 15, 16, 17, 18, 19, 20, 21, 22, 23, 24, 25, 26, 27, 28, 29, 30, 31, 32, 33, 34, 35, 36, 37, 38, 39, 40, 41, 42, 43, 44, 5, 45, 75, 76, 77, 78, 79, 80, 81, 82, 83, 84, 85, 86, 87, 88, 89, 90, 91, 92] (by decide +kernel) (by decide +kernel)
set_option maxRecDepth 20000 in
theorem gX2_openedByThose_X2_hear : GoodIn wsX2_openedByThose (wsV RX2 134 RX2 yX2_hear wsX2_hear) := goodIn_app (goodIn_of _ (by decide +kernel)) ggX2_openedByThose_X2_hear
set_option maxRecDepth 20000 in
theorem ggX2_openedByThose_J6_bitCount_0f7a4 : GoodIn wsX2_openedByThose wsJ6_bitCount_0f7a4 := goodIn_r _ [49, 50, 51, 52] (by decide +kernel) (by decide +kernel)
set_option maxRecDepth 20000 in
theorem gX2_openedByThose_J6_bitCount_0f7a4 : GoodIn wsX2_openedByThose (va_wsS RX2 125 yJ6_bitCount_0f7a4 wsJ6_bitCount_0f7a4) := goodIn_app (goodIn_of _ (by decide +kernel)) ggX2_openedByThose_J6_bitCount_0f7a4
set_option maxRecDepth 20000 in
theorem ggX2_openedByThose_X4_lowest : GoodIn wsX2_openedByThose wsX4_lowest := goodIn_r _ [55, 56, 4, 5, 6, 57, 44, 45] (by decide +kernel) (by decide +kernel)
set_option maxRecDepth 20000 in
theorem gX2_openedByThose_X4_lowest : GoodIn wsX2_openedByThose (va_wsS RX2 140 yX4_lowest wsX4_lowest) := goodIn_app (goodIn_of _ (by decide +kernel)) ggX2_openedByThose_X4_lowest
set_option maxRecDepth 20000 in
theorem ggX2_openedByThose_X5_weighed : GoodIn wsX2_openedByThose wsX5_weighed := goodIn_r _ [60, 61, 4, 5, 6, 62, 63, 25, 64, 65, 66, 67, 68, 69, 70, 71, 72, 73, 74, 24, 26] (by decide +kernel) (by decide +kernel)
set_option maxRecDepth 20000 in
theorem gX2_openedByThose_X5_weighed : GoodIn wsX2_openedByThose (va_wsS RX2 143 yX5_weighed wsX5_weighed) := goodIn_app (goodIn_of _ (by decide +kernel)) ggX2_openedByThose_X5_weighed
theorem dX2_openedByThose_0 : decode cX2_openedByThose 0 = .ok (.iload_n 1, 1) := by decide +kernel
theorem dX2_openedByThose_1 : decode cX2_openedByThose 1 = .ok (.aload_n 0, 1) := by decide +kernel
theorem dX2_openedByThose_2 : decode cX2_openedByThose 2 = .ok (.getfield 12, 3) := by decide +kernel
theorem dX2_openedByThose_5 : decode cX2_openedByThose 5 = .ok (.getfield 113, 3) := by decide +kernel
theorem dX2_openedByThose_8 : decode cX2_openedByThose 8 = .ok (.iand, 1) := by decide +kernel
theorem dX2_openedByThose_9 : decode cX2_openedByThose 9 = .ok (.istore_n 3, 1) := by decide +kernel
theorem dX2_openedByThose_10 : decode cX2_openedByThose 10 = .ok (.iconst 1, 1) := by decide +kernel
theorem dX2_openedByThose_11 : decode cX2_openedByThose 11 = .ok (.istore 4, 2) := by decide +kernel
theorem dX2_openedByThose_13 : decode cX2_openedByThose 13 = .ok (.iload 4, 2) := by decide +kernel
theorem dX2_openedByThose_15 : decode cX2_openedByThose 15 = .ok (.bipush 7, 2) := by decide +kernel
theorem dX2_openedByThose_17 : decode cX2_openedByThose 17 = .ok (.if_icmp .gt 25, 3) := by decide +kernel
theorem dX2_openedByThose_20 : decode cX2_openedByThose 20 = .ok (.iload_n 3, 1) := by decide +kernel
theorem dX2_openedByThose_21 : decode cX2_openedByThose 21 = .ok (.iload 4, 2) := by decide +kernel
theorem dX2_openedByThose_23 : decode cX2_openedByThose 23 = .ok (.invokestatic 130, 3) := by decide +kernel
theorem dX2_openedByThose_26 : decode cX2_openedByThose 26 = .ok (.ifCond .eq 10, 3) := by decide +kernel
theorem dX2_openedByThose_29 : decode cX2_openedByThose 29 = .ok (.aload_n 0, 1) := by decide +kernel
theorem dX2_openedByThose_30 : decode cX2_openedByThose 30 = .ok (.iload 4, 2) := by decide +kernel
theorem dX2_openedByThose_32 : decode cX2_openedByThose 32 = .ok (.invokevirtual 134, 3) := by decide +kernel
theorem dX2_openedByThose_35 : decode cX2_openedByThose 35 = .ok (.pop, 1) := by decide +kernel
theorem dX2_openedByThose_36 : decode cX2_openedByThose 36 = .ok (.iinc 4 1, 3) := by decide +kernel
theorem dX2_openedByThose_39 : decode cX2_openedByThose 39 = .ok (.goto (-26), 3) := by decide +kernel
theorem dX2_openedByThose_42 : decode cX2_openedByThose 42 = .ok (.iload_n 3, 1) := by decide +kernel
theorem dX2_openedByThose_43 : decode cX2_openedByThose 43 = .ok (.aload_n 0, 1) := by decide +kernel
theorem dX2_openedByThose_44 : decode cX2_openedByThose 44 = .ok (.getfield 12, 3) := by decide +kernel
theorem dX2_openedByThose_47 : decode cX2_openedByThose 47 = .ok (.getfield 35, 3) := by decide +kernel
theorem dX2_openedByThose_50 : decode cX2_openedByThose 50 = .ok (.iconst (-1), 1) := by decide +kernel
theorem dX2_openedByThose_51 : decode cX2_openedByThose 51 = .ok (.ixor, 1) := by decide +kernel
theorem dX2_openedByThose_52 : decode cX2_openedByThose 52 = .ok (.iand, 1) := by decide +kernel
theorem dX2_openedByThose_53 : decode cX2_openedByThose 53 = .ok (.istore 4, 2) := by decide +kernel
theorem dX2_openedByThose_55 : decode cX2_openedByThose 55 = .ok (.iload 4, 2) := by decide +kernel
theorem dX2_openedByThose_57 : decode cX2_openedByThose 57 = .ok (.invokestatic 125, 3) := by decide +kernel
theorem dX2_openedByThose_60 : decode cX2_openedByThose 60 = .ok (.aload_n 0, 1) := by decide +kernel
theorem dX2_openedByThose_61 : decode cX2_openedByThose 61 = .ok (.getfield 12, 3) := by decide +kernel
theorem dX2_openedByThose_64 : decode cX2_openedByThose 64 = .ok (.getfield 137, 3) := by decide +kernel
theorem dX2_openedByThose_67 : decode cX2_openedByThose 67 = .ok (.if_icmp .ge 6, 3) := by decide +kernel
theorem dX2_openedByThose_70 : decode cX2_openedByThose 70 = .ok (.bipush (-5), 2) := by decide +kernel
theorem dX2_openedByThose_72 : decode cX2_openedByThose 72 = .ok (.ireturn, 1) := by decide +kernel
theorem dX2_openedByThose_73 : decode cX2_openedByThose 73 = .ok (.aload_n 0, 1) := by decide +kernel
theorem dX2_openedByThose_74 : decode cX2_openedByThose 74 = .ok (.getfield 18, 3) := by decide +kernel
theorem dX2_openedByThose_77 : decode cX2_openedByThose 77 = .ok (.iload 4, 2) := by decide +kernel
theorem dX2_openedByThose_79 : decode cX2_openedByThose 79 = .ok (.aload_n 0, 1) := by decide +kernel
theorem dX2_openedByThose_80 : decode cX2_openedByThose 80 = .ok (.getfield 12, 3) := by decide +kernel
theorem dX2_openedByThose_83 : decode cX2_openedByThose 83 = .ok (.getfield 137, 3) := by decide +kernel
theorem dX2_openedByThose_86 : decode cX2_openedByThose 86 = .ok (.invokestatic 140, 3) := by decide +kernel
theorem dX2_openedByThose_89 : decode cX2_openedByThose 89 = .ok (.iload_n 2, 1) := by decide +kernel
theorem dX2_openedByThose_90 : decode cX2_openedByThose 90 = .ok (.invokestatic 143, 3) := by decide +kernel
theorem dX2_openedByThose_93 : decode cX2_openedByThose 93 = .ok (.ireturn, 1) := by decide +kernel
set_option maxRecDepth 20000 in
theorem ggX2_hear_X0_tells : GoodIn wsX2_hear wsX0_tells := goodIn_r _ [7, 8, 9, 10, 11, 6, 12, 13, 14, 15, 16, 17, 44, 45, 46, 47, 48, 49, 50, 51, 52, 53, 54, 55] (by decide +kernel) (by decide +kernel)
set_option maxRecDepth 20000 in
theorem gX2_hear_X0_tells : GoodIn wsX2_hear (wsV RX2 147 RX0 yX0_tells wsX0_tells) := goodIn_app (goodIn_of _ (by decide +kernel)) ggX2_hear_X0_tells
set_option maxRecDepth 20000 in
theorem ggX2_hear_X5_fitting : GoodIn wsX2_hear wsX5_fitting := goodIn_r _ [20, 21, 22, 23, 24, 25, 26, 16, 27, 28, 29, 30, 31, 32, 33] (by decide +kernel) (by decide +kernel)
set_option maxRecDepth 20000 in
theorem gX2_hear_X5_fitting : GoodIn wsX2_hear (va_wsS RX2 150 yX5_fitting wsX5_fitting) := goodIn_app (goodIn_of _ (by decide +kernel)) ggX2_hear_X5_fitting
set_option maxRecDepth 20000 in
theorem ggX2_hear_X4_only : GoodIn wsX2_hear wsX4_only := goodIn_r _ [37] (by decide +kernel) (by decide +kernel)
set_option maxRecDepth 20000 in
theorem gX2_hear_X4_only : GoodIn wsX2_hear (va_wsS RX2 120 yX4_only wsX4_only) := goodIn_app (goodIn_of _ (by decide +kernel)) ggX2_hear_X4_only
theorem dX2_hear_0 : decode cX2_hear 0 = .ok (.aload_n 0, 1) := by decide +kernel
theorem dX2_hear_1 : decode cX2_hear 1 = .ok (.getfield 18, 3) := by decide +kernel
theorem dX2_hear_4 : decode cX2_hear 4 = .ok (.iload_n 1, 1) := by decide +kernel
theorem dX2_hear_5 : decode cX2_hear 5 = .ok (.aload_n 0, 1) := by decide +kernel
theorem dX2_hear_6 : decode cX2_hear 6 = .ok (.getfield 12, 3) := by decide +kernel
theorem dX2_hear_9 : decode cX2_hear 9 = .ok (.iload_n 1, 1) := by decide +kernel
theorem dX2_hear_10 : decode cX2_hear 10 = .ok (.invokevirtual 147, 3) := by decide +kernel
theorem dX2_hear_13 : decode cX2_hear 13 = .ok (.iastore, 1) := by decide +kernel
theorem dX2_hear_14 : decode cX2_hear 14 = .ok (.aload_n 0, 1) := by decide +kernel
theorem dX2_hear_15 : decode cX2_hear 15 = .ok (.getfield 18, 3) := by decide +kernel
theorem dX2_hear_18 : decode cX2_hear 18 = .ok (.iload_n 1, 1) := by decide +kernel
theorem dX2_hear_19 : decode cX2_hear 19 = .ok (.iaload, 1) := by decide +kernel
theorem dX2_hear_20 : decode cX2_hear 20 = .ok (.iload_n 1, 1) := by decide +kernel
theorem dX2_hear_21 : decode cX2_hear 21 = .ok (.aload_n 0, 1) := by decide +kernel
theorem dX2_hear_22 : decode cX2_hear 22 = .ok (.getfield 12, 3) := by decide +kernel
theorem dX2_hear_25 : decode cX2_hear 25 = .ok (.getfield 95, 3) := by decide +kernel
theorem dX2_hear_28 : decode cX2_hear 28 = .ok (.aload_n 0, 1) := by decide +kernel
theorem dX2_hear_29 : decode cX2_hear 29 = .ok (.getfield 12, 3) := by decide +kernel
theorem dX2_hear_32 : decode cX2_hear 32 = .ok (.getfield 137, 3) := by decide +kernel
theorem dX2_hear_35 : decode cX2_hear 35 = .ok (.invokestatic 150, 3) := by decide +kernel
theorem dX2_hear_38 : decode cX2_hear 38 = .ok (.ifCond .eq 5, 3) := by decide +kernel
theorem dX2_hear_41 : decode cX2_hear 41 = .ok (.iconst 1, 1) := by decide +kernel
theorem dX2_hear_42 : decode cX2_hear 42 = .ok (.ireturn, 1) := by decide +kernel
theorem dX2_hear_43 : decode cX2_hear 43 = .ok (.aload_n 0, 1) := by decide +kernel
theorem dX2_hear_44 : decode cX2_hear 44 = .ok (.getfield 12, 3) := by decide +kernel
theorem dX2_hear_47 : decode cX2_hear 47 = .ok (.dup, 1) := by decide +kernel
theorem dX2_hear_48 : decode cX2_hear 48 = .ok (.getfield 35, 3) := by decide +kernel
theorem dX2_hear_51 : decode cX2_hear 51 = .ok (.iload_n 1, 1) := by decide +kernel
theorem dX2_hear_52 : decode cX2_hear 52 = .ok (.invokestatic 120, 3) := by decide +kernel
theorem dX2_hear_55 : decode cX2_hear 55 = .ok (.ior, 1) := by decide +kernel
theorem dX2_hear_56 : decode cX2_hear 56 = .ok (.putfield 35, 3) := by decide +kernel
theorem dX2_hear_59 : decode cX2_hear 59 = .ok (.iconst 0, 1) := by decide +kernel
theorem dX2_hear_60 : decode cX2_hear 60 = .ok (.ireturn, 1) := by decide +kernel
set_option maxRecDepth 20000 in
theorem ggX2_rebuild_X6_isMember : GoodIn wsX2_rebuild wsX6_isMember := goodIn_r _ [4] (by decide +kernel) (by decide +kernel)
set_option maxRecDepth 20000 in
theorem gX2_rebuild_X6_isMember_n154 : GoodIn wsX2_rebuild (wsX6_isMember) := ggX2_rebuild_X6_isMember
set_option maxRecDepth 20000 in
theorem ggX2_rebuild_X4_has : GoodIn wsX2_rebuild wsX4_has := goodIn_r _ [8] (by decide +kernel) (by decide +kernel)
set_option maxRecDepth 20000 in
theorem gX2_rebuild_X4_has : GoodIn wsX2_rebuild (va_wsS RX2 130 yX4_has wsX4_has) := goodIn_app (goodIn_of _ (by decide +kernel)) ggX2_rebuild_X4_has
set_option maxRecDepth 20000 in
theorem ggX2_rebuild_X2_openedByThose : GoodIn wsX2_rebuild wsX2_openedByThose := goodIn_r _ [13, 1, 14, 5, 6, 7, 8, 15, 16, 17, 12, 18, 19, 20, 21, 22, 23, 24, 25, 26, 27, 28, 29, 30, 31, 32, 33, 34, 35, 36, 37, 38, 39, 40, 41, 42, 43, 44, 45, 46, 47, 48, 49, 50, 51, 52, 53, 54, 55, 56, 57, 58, 59, 60, 61, 62, 63, 64, 65, 66, 67, 68, 69, 70, 71, 72, 73, 74, 75, 76, 77, 78, 79, 80, 81, 82, 83, 84, 85, 86, 87, 88, 89, 90, 91, 92, 93, 94, 95, 96, 97, 98, 99] (by decide +kernel) (by decide +kernel)
set_option maxRecDepth 20000 in
theorem gX2_rebuild_X2_openedByThose : GoodIn wsX2_rebuild (wsV RX2 68 RX2 yX2_openedByThose wsX2_openedByThose) := goodIn_app (goodIn_of _ (by decide +kernel)) ggX2_rebuild_X2_openedByThose
set_option maxRecDepth 20000 in
theorem ggX2_rebuild_X4_only : GoodIn wsX2_rebuild wsX4_only := goodIn_r _ [52] (by decide +kernel) (by decide +kernel)
set_option maxRecDepth 20000 in
theorem gX2_rebuild_X4_only : GoodIn wsX2_rebuild (va_wsS RX2 120 yX4_only wsX4_only) := goodIn_app (goodIn_of _ (by decide +kernel)) ggX2_rebuild_X4_only
theorem dX2_rebuild_0 : decode cX2_rebuild 0 = .ok (.iload_n 1, 1) := by decide +kernel
theorem dX2_rebuild_1 : decode cX2_rebuild 1 = .ok (.invokestatic 154, 3) := by decide +kernel
theorem dX2_rebuild_4 : decode cX2_rebuild 4 = .ok (.ifCond .eq 17, 3) := by decide +kernel
theorem dX2_rebuild_7 : decode cX2_rebuild 7 = .ok (.aload_n 0, 1) := by decide +kernel
theorem dX2_rebuild_8 : decode cX2_rebuild 8 = .ok (.getfield 12, 3) := by decide +kernel
theorem dX2_rebuild_11 : decode cX2_rebuild 11 = .ok (.getfield 113, 3) := by decide +kernel
theorem dX2_rebuild_14 : decode cX2_rebuild 14 = .ok (.iload_n 1, 1) := by decide +kernel
theorem dX2_rebuild_15 : decode cX2_rebuild 15 = .ok (.invokestatic 130, 3) := by decide +kernel
theorem dX2_rebuild_18 : decode cX2_rebuild 18 = .ok (.ifCond .eq 6, 3) := by decide +kernel
theorem dX2_rebuild_21 : decode cX2_rebuild 21 = .ok (.bipush (-5), 2) := by decide +kernel
theorem dX2_rebuild_23 : decode cX2_rebuild 23 = .ok (.ireturn, 1) := by decide +kernel
theorem dX2_rebuild_24 : decode cX2_rebuild 24 = .ok (.aload_n 0, 1) := by decide +kernel
theorem dX2_rebuild_25 : decode cX2_rebuild 25 = .ok (.iload_n 2, 1) := by decide +kernel
theorem dX2_rebuild_26 : decode cX2_rebuild 26 = .ok (.iload_n 1, 1) := by decide +kernel
theorem dX2_rebuild_27 : decode cX2_rebuild 27 = .ok (.invokevirtual 68, 3) := by decide +kernel
theorem dX2_rebuild_30 : decode cX2_rebuild 30 = .ok (.istore_n 3, 1) := by decide +kernel
theorem dX2_rebuild_31 : decode cX2_rebuild 31 = .ok (.iload_n 3, 1) := by decide +kernel
theorem dX2_rebuild_32 : decode cX2_rebuild 32 = .ok (.ifCond .ge 5, 3) := by decide +kernel
theorem dX2_rebuild_35 : decode cX2_rebuild 35 = .ok (.iload_n 3, 1) := by decide +kernel
theorem dX2_rebuild_36 : decode cX2_rebuild 36 = .ok (.ireturn, 1) := by decide +kernel
theorem dX2_rebuild_37 : decode cX2_rebuild 37 = .ok (.aload_n 0, 1) := by decide +kernel
theorem dX2_rebuild_38 : decode cX2_rebuild 38 = .ok (.getfield 12, 3) := by decide +kernel
theorem dX2_rebuild_41 : decode cX2_rebuild 41 = .ok (.getfield 106, 3) := by decide +kernel
theorem dX2_rebuild_44 : decode cX2_rebuild 44 = .ok (.iload_n 1, 1) := by decide +kernel
theorem dX2_rebuild_45 : decode cX2_rebuild 45 = .ok (.iload_n 3, 1) := by decide +kernel
theorem dX2_rebuild_46 : decode cX2_rebuild 46 = .ok (.iastore, 1) := by decide +kernel
theorem dX2_rebuild_47 : decode cX2_rebuild 47 = .ok (.aload_n 0, 1) := by decide +kernel
theorem dX2_rebuild_48 : decode cX2_rebuild 48 = .ok (.getfield 12, 3) := by decide +kernel
theorem dX2_rebuild_51 : decode cX2_rebuild 51 = .ok (.dup, 1) := by decide +kernel
theorem dX2_rebuild_52 : decode cX2_rebuild 52 = .ok (.getfield 113, 3) := by decide +kernel
theorem dX2_rebuild_55 : decode cX2_rebuild 55 = .ok (.iload_n 1, 1) := by decide +kernel
theorem dX2_rebuild_56 : decode cX2_rebuild 56 = .ok (.invokestatic 120, 3) := by decide +kernel
theorem dX2_rebuild_59 : decode cX2_rebuild 59 = .ok (.ior, 1) := by decide +kernel
theorem dX2_rebuild_60 : decode cX2_rebuild 60 = .ok (.putfield 113, 3) := by decide +kernel
theorem dX2_rebuild_63 : decode cX2_rebuild 63 = .ok (.iconst 1, 1) := by decide +kernel
theorem dX2_rebuild_64 : decode cX2_rebuild 64 = .ok (.ireturn, 1) := by decide +kernel
set_option maxRecDepth 20000 in
theorem ggX2_steal_X6_isMember : GoodIn wsX2_steal wsX6_isMember := goodIn_r _ [4] (by decide +kernel) (by decide +kernel)
set_option maxRecDepth 20000 in
theorem gX2_steal_X6_isMember_n154 : GoodIn wsX2_steal (wsX6_isMember) := ggX2_steal_X6_isMember
set_option maxRecDepth 20000 in
theorem ggX2_steal_X4_has : GoodIn wsX2_steal wsX4_has := goodIn_r _ [8] (by decide +kernel) (by decide +kernel)
set_option maxRecDepth 20000 in
theorem gX2_steal_X4_has : GoodIn wsX2_steal (va_wsS RX2 130 yX4_has wsX4_has) := goodIn_app (goodIn_of _ (by decide +kernel)) ggX2_steal_X4_has
set_option maxRecDepth 20000 in
theorem ggX2_steal_X1_add : GoodIn wsX2_steal wsX1_add := goodIn_r _ [13, 14, 15, 16, 17, 18, 19, 20, 12, 21, 40, 41, 42, 43] (by decide +kernel) (by decide +kernel)
set_option maxRecDepth 20000 in
theorem gX2_steal_X1_add : GoodIn wsX2_steal (wsV RX2 160 RX1 yX1_add wsX1_add) := goodIn_app (goodIn_of _ (by decide +kernel)) ggX2_steal_X1_add
theorem dX2_steal_0 : decode cX2_steal 0 = .ok (.iload_n 1, 1) := by decide +kernel
theorem dX2_steal_1 : decode cX2_steal 1 = .ok (.invokestatic 154, 3) := by decide +kernel
theorem dX2_steal_4 : decode cX2_steal 4 = .ok (.ifCond .eq 17, 3) := by decide +kernel
theorem dX2_steal_7 : decode cX2_steal 7 = .ok (.aload_n 0, 1) := by decide +kernel
theorem dX2_steal_8 : decode cX2_steal 8 = .ok (.getfield 12, 3) := by decide +kernel
theorem dX2_steal_11 : decode cX2_steal 11 = .ok (.getfield 113, 3) := by decide +kernel
theorem dX2_steal_14 : decode cX2_steal 14 = .ok (.iload_n 1, 1) := by decide +kernel
theorem dX2_steal_15 : decode cX2_steal 15 = .ok (.invokestatic 130, 3) := by decide +kernel
theorem dX2_steal_18 : decode cX2_steal 18 = .ok (.ifCond .ne 6, 3) := by decide +kernel
theorem dX2_steal_21 : decode cX2_steal 21 = .ok (.bipush (-5), 2) := by decide +kernel
theorem dX2_steal_23 : decode cX2_steal 23 = .ok (.ireturn, 1) := by decide +kernel
theorem dX2_steal_24 : decode cX2_steal 24 = .ok (.aload_n 0, 1) := by decide +kernel
theorem dX2_steal_25 : decode cX2_steal 25 = .ok (.getfield 12, 3) := by decide +kernel
theorem dX2_steal_28 : decode cX2_steal 28 = .ok (.getfield 87, 3) := by decide +kernel
theorem dX2_steal_31 : decode cX2_steal 31 = .ok (.iload_n 1, 1) := by decide +kernel
theorem dX2_steal_32 : decode cX2_steal 32 = .ok (.aload_n 0, 1) := by decide +kernel
theorem dX2_steal_33 : decode cX2_steal 33 = .ok (.getfield 12, 3) := by decide +kernel
theorem dX2_steal_36 : decode cX2_steal 36 = .ok (.getfield 157, 3) := by decide +kernel
theorem dX2_steal_39 : decode cX2_steal 39 = .ok (.aload_n 0, 1) := by decide +kernel
theorem dX2_steal_40 : decode cX2_steal 40 = .ok (.getfield 12, 3) := by decide +kernel
theorem dX2_steal_43 : decode cX2_steal 43 = .ok (.getfield 106, 3) := by decide +kernel
theorem dX2_steal_46 : decode cX2_steal 46 = .ok (.iload_n 1, 1) := by decide +kernel
theorem dX2_steal_47 : decode cX2_steal 47 = .ok (.iaload, 1) := by decide +kernel
theorem dX2_steal_48 : decode cX2_steal 48 = .ok (.invokevirtual 160, 3) := by decide +kernel
theorem dX2_steal_51 : decode cX2_steal 51 = .ok (.aload_n 0, 1) := by decide +kernel
theorem dX2_steal_52 : decode cX2_steal 52 = .ok (.getfield 12, 3) := by decide +kernel
theorem dX2_steal_55 : decode cX2_steal 55 = .ok (.getfield 87, 3) := by decide +kernel
theorem dX2_steal_58 : decode cX2_steal 58 = .ok (.getfield 164, 3) := by decide +kernel
theorem dX2_steal_61 : decode cX2_steal 61 = .ok (.ireturn, 1) := by decide +kernel
set_option maxRecDepth 20000 in
theorem ggX2_fresh_X4_has : GoodIn wsX2_fresh wsX4_has := goodIn_r _ [7] (by decide +kernel) (by decide +kernel)
set_option maxRecDepth 20000 in
theorem gX2_fresh_X4_has : GoodIn wsX2_fresh (va_wsS RX2 130 yX4_has wsX4_has) := goodIn_app (goodIn_of _ (by decide +kernel)) ggX2_fresh_X4_has
set_option maxRecDepth 20000 in
theorem ggX2_fresh_X2_offer : GoodIn wsX2_fresh wsX2_offer := goodIn_r _ [12, 13, 1, 14, 2, 15, 16, 17, 18, 19, 20, 21, 4, 5, 6, 7, 22, 23, 24, 11, 25, 26, 27, 28, 29, 30, 31, 32, 33, 34, 35, 36, 37, 38, 39, 40, 41, 42, 43, 44, 45, 46, 47, 48, 49, 50, 51, 52, 53, 54, 55, 88, 89, 90, 91, 92, 93, 94, 95, 96, 97, 98, 99, 100, 101, 102, 103, 104, 105] (by decide +kernel) (by decide +kernel)
set_option maxRecDepth 20000 in
theorem gX2_fresh_X2_offer : GoodIn wsX2_fresh (wsV RX2 167 RX2 yX2_offer wsX2_offer) := goodIn_app (goodIn_of _ (by decide +kernel)) ggX2_fresh_X2_offer
set_option maxRecDepth 20000 in
theorem ggX2_fresh_X2_pourTaken : GoodIn wsX2_fresh wsX2_pourTaken := goodIn_r _ [59, 2, 4, 5, 6, 7, 60, 61, 62, 11, 63, 1, 3, 13, 32, 33, 34, 35, 36, 37, 38, 39, 40, 17, 41, 42, 43, 44, 15, 16, 18, 19, 20, 21, 64, 65, 50, 51, 88, 89, 90, 91, 92, 93, 94, 95, 96, 97, 98, 99, 100, 101, 102, 103, 104, 105] (by decide +kernel) (by decide +kernel)
set_option maxRecDepth 20000 in
theorem gX2_fresh_X2_pourTaken : GoodIn wsX2_fresh (wsV RX2 170 RX2 yX2_pourTaken wsX2_pourTaken) := goodIn_app (goodIn_of _ (by decide +kernel)) ggX2_fresh_X2_pourTaken
set_option maxRecDepth 20000 in
theorem ggX2_fresh_X2_closeEpoch : GoodIn wsX2_fresh wsX2_closeEpoch := goodIn_r _ [69, 1, 70, 71, 72, 29, 73, 74, 75, 76, 77, 78, 79, 80, 81, 82, 83, 84, 85, 86, 87, 88, 89, 90, 91, 92, 93, 94, 95, 96, 97, 98, 99, 100, 101, 102, 103, 104, 105] (by decide +kernel) (by decide +kernel)
set_option maxRecDepth 20000 in
theorem gX2_fresh_X2_closeEpoch : GoodIn wsX2_fresh (wsV RX2 173 RX2 yX2_closeEpoch wsX2_closeEpoch) := goodIn_app (goodIn_of _ (by decide +kernel)) ggX2_fresh_X2_closeEpoch
theorem dX2_fresh_0 : decode cX2_fresh 0 = .ok (.aload_n 0, 1) := by decide +kernel
theorem dX2_fresh_1 : decode cX2_fresh 1 = .ok (.getfield 12, 3) := by decide +kernel
theorem dX2_fresh_4 : decode cX2_fresh 4 = .ok (.getfield 137, 3) := by decide +kernel
theorem dX2_fresh_7 : decode cX2_fresh 7 = .ok (.istore_n 1, 1) := by decide +kernel
theorem dX2_fresh_8 : decode cX2_fresh 8 = .ok (.aload_n 0, 1) := by decide +kernel
theorem dX2_fresh_9 : decode cX2_fresh 9 = .ok (.iconst 0, 1) := by decide +kernel
theorem dX2_fresh_10 : decode cX2_fresh 10 = .ok (.putfield 31, 3) := by decide +kernel
theorem dX2_fresh_13 : decode cX2_fresh 13 = .ok (.iconst 1, 1) := by decide +kernel
theorem dX2_fresh_14 : decode cX2_fresh 14 = .ok (.istore_n 2, 1) := by decide +kernel
theorem dX2_fresh_15 : decode cX2_fresh 15 = .ok (.iload_n 2, 1) := by decide +kernel
theorem dX2_fresh_16 : decode cX2_fresh 16 = .ok (.bipush 7, 2) := by decide +kernel
theorem dX2_fresh_18 : decode cX2_fresh 18 = .ok (.if_icmp .gt 37, 3) := by decide +kernel
theorem dX2_fresh_21 : decode cX2_fresh 21 = .ok (.aload_n 0, 1) := by decide +kernel
theorem dX2_fresh_22 : decode cX2_fresh 22 = .ok (.getfield 12, 3) := by decide +kernel
theorem dX2_fresh_25 : decode cX2_fresh 25 = .ok (.getfield 113, 3) := by decide +kernel
theorem dX2_fresh_28 : decode cX2_fresh 28 = .ok (.iload_n 2, 1) := by decide +kernel
theorem dX2_fresh_29 : decode cX2_fresh 29 = .ok (.invokestatic 130, 3) := by decide +kernel
theorem dX2_fresh_32 : decode cX2_fresh 32 = .ok (.ifCond .eq 17, 3) := by decide +kernel
theorem dX2_fresh_35 : decode cX2_fresh 35 = .ok (.aload_n 0, 1) := by decide +kernel
theorem dX2_fresh_36 : decode cX2_fresh 36 = .ok (.iload_n 2, 1) := by decide +kernel
theorem dX2_fresh_37 : decode cX2_fresh 37 = .ok (.iconst 0, 1) := by decide +kernel
theorem dX2_fresh_38 : decode cX2_fresh 38 = .ok (.iload_n 1, 1) := by decide +kernel
theorem dX2_fresh_39 : decode cX2_fresh 39 = .ok (.invokevirtual 167, 3) := by decide +kernel
theorem dX2_fresh_42 : decode cX2_fresh 42 = .ok (.aload_n 0, 1) := by decide +kernel
theorem dX2_fresh_43 : decode cX2_fresh 43 = .ok (.getfield 28, 3) := by decide +kernel
theorem dX2_fresh_46 : decode cX2_fresh 46 = .ok (.iload_n 2, 1) := by decide +kernel
theorem dX2_fresh_47 : decode cX2_fresh 47 = .ok (.iconst 1, 1) := by decide +kernel
theorem dX2_fresh_48 : decode cX2_fresh 48 = .ok (.iastore, 1) := by decide +kernel
theorem dX2_fresh_49 : decode cX2_fresh 49 = .ok (.iinc 2 1, 3) := by decide +kernel
theorem dX2_fresh_52 : decode cX2_fresh 52 = .ok (.goto (-37), 3) := by decide +kernel
theorem dX2_fresh_55 : decode cX2_fresh 55 = .ok (.aload_n 0, 1) := by decide +kernel
theorem dX2_fresh_56 : decode cX2_fresh 56 = .ok (.iload_n 1, 1) := by decide +kernel
theorem dX2_fresh_57 : decode cX2_fresh 57 = .ok (.invokevirtual 170, 3) := by decide +kernel
theorem dX2_fresh_60 : decode cX2_fresh 60 = .ok (.aload_n 0, 1) := by decide +kernel
theorem dX2_fresh_61 : decode cX2_fresh 61 = .ok (.iload_n 1, 1) := by decide +kernel
theorem dX2_fresh_62 : decode cX2_fresh 62 = .ok (.invokevirtual 173, 3) := by decide +kernel
theorem dX2_fresh_65 : decode cX2_fresh 65 = .ok (.ireturn, 1) := by decide +kernel
set_option maxRecDepth 20000 in
theorem ggX2_move_J6_bitCount_0f7a4 : GoodIn wsX2_move wsJ6_bitCount_0f7a4 := goodIn_r _ [8, 9, 10, 11] (by decide +kernel) (by decide +kernel)
set_option maxRecDepth 20000 in
theorem gX2_move_J6_bitCount_0f7a4 : GoodIn wsX2_move (va_wsS RX2 125 yJ6_bitCount_0f7a4 wsJ6_bitCount_0f7a4) := goodIn_app (goodIn_of _ (by decide +kernel)) ggX2_move_J6_bitCount_0f7a4
set_option maxRecDepth 20000 in
theorem ggX2_move_X4_has : GoodIn wsX2_move wsX4_has := goodIn_r _ [15] (by decide +kernel) (by decide +kernel)
set_option maxRecDepth 20000 in
theorem gX2_move_X4_has : GoodIn wsX2_move (va_wsS RX2 130 yX4_has wsX4_has) := goodIn_app (goodIn_of _ (by decide +kernel)) ggX2_move_X4_has
set_option maxRecDepth 20000 in
theorem ggX2_move_X2_hear : GoodIn wsX2_move wsX2_hear := goodIn_r _ [20, 3, 1, 21, 22, 23, 24, 25, 26, 27, 28, 29, 30, 31, 32, 33, 34, 35, 36, 37, 38, 39, 40, 41, 42, 43, 44, 45, 46, 47, 48, 49, 50, 51, 52, 53, 14, 54, 115, 116, 117, 118, 119, 120, 121, 122, 123, 124, 125, 126, 127, 128, 129, 130, 131, 132] (by decide +kernel) (by decide +kernel)
set_option maxRecDepth 20000 in
theorem gX2_move_X2_hear : GoodIn wsX2_move (wsV RX2 134 RX2 yX2_hear wsX2_hear) := goodIn_app (goodIn_of _ (by decide +kernel)) ggX2_move_X2_hear
set_option maxRecDepth 20000 in
theorem ggX2_move_X2_offer : GoodIn wsX2_move wsX2_offer := goodIn_r _ [58, 59, 1, 60, 2, 61, 50, 34, 51, 43, 44, 45, 12, 13, 14, 15, 62, 63, 64, 19, 65, 66, 28, 29, 24, 30, 31, 67, 68, 69, 70, 40, 41, 42, 71, 72, 73, 74, 33, 35, 36, 37, 38, 39, 46, 47, 48, 49, 52, 53, 54, 115, 116, 117, 118, 119, 120, 121, 122, 123, 124, 125, 126, 127, 128, 129, 130, 131, 132] (by decide +kernel) (by decide +kernel)
set_option maxRecDepth 20000 in
theorem gX2_move_X2_offer : GoodIn wsX2_move (wsV RX2 167 RX2 yX2_offer wsX2_offer) := goodIn_app (goodIn_of _ (by decide +kernel)) ggX2_move_X2_offer
set_option maxRecDepth 20000 in
theorem ggX2_move_X5_weight : GoodIn wsX2_move wsX5_weight := goodIn_r _ [77, 78, 13, 14, 15, 79, 80, 34, 81, 82, 72, 73, 83, 84, 85] (by decide +kernel) (by decide +kernel)
set_option maxRecDepth 20000 in
theorem gX2_move_X5_weight : GoodIn wsX2_move (va_wsS RX2 176 yX5_weight wsX5_weight) := goodIn_app (goodIn_of _ (by decide +kernel)) ggX2_move_X5_weight
set_option maxRecDepth 20000 in
theorem ggX2_move_J7_fill_53178 : GoodIn wsX2_move wsJ7_fill_53178 := goodIn_r _ [89] (by decide +kernel) (by decide +kernel)
set_option maxRecDepth 20000 in
theorem gX2_move_J7_fill_53178 : GoodIn wsX2_move (va_wsS RX2 180 yJ7_fill_53178 wsJ7_fill_53178) := goodIn_app (goodIn_of _ (by decide +kernel)) ggX2_move_J7_fill_53178
set_option maxRecDepth 20000 in
theorem ggX2_move_X2_pourTaken : GoodIn wsX2_move wsX2_pourTaken := goodIn_r _ [93, 2, 12, 13, 14, 15, 94, 95, 96, 19, 97, 1, 4, 59, 67, 68, 69, 70, 40, 41, 42, 71, 72, 34, 73, 74, 33, 35, 61, 50, 51, 43, 44, 45, 98, 99, 47, 48, 115, 116, 117, 118, 119, 120, 121, 122, 123, 124, 125, 126, 127, 128, 129, 130, 131, 132] (by decide +kernel) (by decide +kernel)
set_option maxRecDepth 20000 in
theorem gX2_move_X2_pourTaken : GoodIn wsX2_move (wsV RX2 170 RX2 yX2_pourTaken wsX2_pourTaken) := goodIn_app (goodIn_of _ (by decide +kernel)) ggX2_move_X2_pourTaken
set_option maxRecDepth 20000 in
theorem ggX2_move_X2_closeEpoch : GoodIn wsX2_move wsX2_closeEpoch := goodIn_r _ [103, 1, 104, 105, 106, 24, 107, 108, 109, 110, 111, 112, 113, 114, 5, 6, 7, 8, 9, 10, 11, 115, 116, 117, 118, 119, 120, 121, 122, 123, 124, 125, 126, 127, 128, 129, 130, 131, 132] (by decide +kernel) (by decide +kernel)
set_option maxRecDepth 20000 in
theorem gX2_move_X2_closeEpoch : GoodIn wsX2_move (wsV RX2 173 RX2 yX2_closeEpoch wsX2_closeEpoch) := goodIn_app (goodIn_of _ (by decide +kernel)) ggX2_move_X2_closeEpoch
theorem dX2_move_0 : decode cX2_move 0 = .ok (.aload_n 0, 1) := by decide +kernel
theorem dX2_move_1 : decode cX2_move 1 = .ok (.getfield 12, 3) := by decide +kernel
theorem dX2_move_4 : decode cX2_move 4 = .ok (.getfield 137, 3) := by decide +kernel
theorem dX2_move_7 : decode cX2_move 7 = .ok (.istore_n 3, 1) := by decide +kernel
theorem dX2_move_8 : decode cX2_move 8 = .ok (.iload_n 2, 1) := by decide +kernel
theorem dX2_move_9 : decode cX2_move 9 = .ok (.aload_n 0, 1) := by decide +kernel
theorem dX2_move_10 : decode cX2_move 10 = .ok (.getfield 12, 3) := by decide +kernel
theorem dX2_move_13 : decode cX2_move 13 = .ok (.getfield 113, 3) := by decide +kernel
theorem dX2_move_16 : decode cX2_move 16 = .ok (.iand, 1) := by decide +kernel
theorem dX2_move_17 : decode cX2_move 17 = .ok (.istore 4, 2) := by decide +kernel
theorem dX2_move_19 : decode cX2_move 19 = .ok (.aload_n 0, 1) := by decide +kernel
theorem dX2_move_20 : decode cX2_move 20 = .ok (.iconst 0, 1) := by decide +kernel
theorem dX2_move_21 : decode cX2_move 21 = .ok (.putfield 31, 3) := by decide +kernel
theorem dX2_move_24 : decode cX2_move 24 = .ok (.iconst 1, 1) := by decide +kernel
theorem dX2_move_25 : decode cX2_move 25 = .ok (.istore 5, 2) := by decide +kernel
theorem dX2_move_27 : decode cX2_move 27 = .ok (.iload 5, 2) := by decide +kernel
theorem dX2_move_29 : decode cX2_move 29 = .ok (.bipush 7, 2) := by decide +kernel
theorem dX2_move_31 : decode cX2_move 31 = .ok (.if_icmp .gt 53, 3) := by decide +kernel
theorem dX2_move_34 : decode cX2_move 34 = .ok (.aload_n 0, 1) := by decide +kernel
theorem dX2_move_35 : decode cX2_move 35 = .ok (.getfield 31, 3) := by decide +kernel
theorem dX2_move_38 : decode cX2_move 38 = .ok (.invokestatic 125, 3) := by decide +kernel
theorem dX2_move_41 : decode cX2_move 41 = .ok (.iload_n 3, 1) := by decide +kernel
theorem dX2_move_42 : decode cX2_move 42 = .ok (.if_icmp .ge 42, 3) := by decide +kernel
theorem dX2_move_45 : decode cX2_move 45 = .ok (.iload 4, 2) := by decide +kernel
theorem dX2_move_47 : decode cX2_move 47 = .ok (.iload 5, 2) := by decide +kernel
theorem dX2_move_49 : decode cX2_move 49 = .ok (.invokestatic 130, 3) := by decide +kernel
theorem dX2_move_52 : decode cX2_move 52 = .ok (.ifCond .eq 26, 3) := by decide +kernel
theorem dX2_move_55 : decode cX2_move 55 = .ok (.aload_n 0, 1) := by decide +kernel
theorem dX2_move_56 : decode cX2_move 56 = .ok (.iload 5, 2) := by decide +kernel
theorem dX2_move_58 : decode cX2_move 58 = .ok (.invokevirtual 134, 3) := by decide +kernel
theorem dX2_move_61 : decode cX2_move 61 = .ok (.ifCond .eq 17, 3) := by decide +kernel
theorem dX2_move_64 : decode cX2_move 64 = .ok (.aload_n 0, 1) := by decide +kernel
theorem dX2_move_65 : decode cX2_move 65 = .ok (.iload 5, 2) := by decide +kernel
theorem dX2_move_67 : decode cX2_move 67 = .ok (.aload_n 0, 1) := by decide +kernel
theorem dX2_move_68 : decode cX2_move 68 = .ok (.getfield 18, 3) := by decide +kernel
theorem dX2_move_71 : decode cX2_move 71 = .ok (.iload 5, 2) := by decide +kernel
theorem dX2_move_73 : decode cX2_move 73 = .ok (.iaload, 1) := by decide +kernel
theorem dX2_move_74 : decode cX2_move 74 = .ok (.iload_n 1, 1) := by decide +kernel
theorem dX2_move_75 : decode cX2_move 75 = .ok (.invokevirtual 167, 3) := by decide +kernel
theorem dX2_move_78 : decode cX2_move 78 = .ok (.iinc 5 1, 3) := by decide +kernel
theorem dX2_move_81 : decode cX2_move 81 = .ok (.goto (-54), 3) := by decide +kernel
theorem dX2_move_84 : decode cX2_move 84 = .ok (.aload_n 0, 1) := by decide +kernel
theorem dX2_move_85 : decode cX2_move 85 = .ok (.getfield 31, 3) := by decide +kernel
theorem dX2_move_88 : decode cX2_move 88 = .ok (.invokestatic 125, 3) := by decide +kernel
theorem dX2_move_91 : decode cX2_move 91 = .ok (.iload_n 3, 1) := by decide +kernel
theorem dX2_move_92 : decode cX2_move 92 = .ok (.if_icmp .ge 6, 3) := by decide +kernel
theorem dX2_move_95 : decode cX2_move 95 = .ok (.bipush (-5), 2) := by decide +kernel
theorem dX2_move_97 : decode cX2_move 97 = .ok (.ireturn, 1) := by decide +kernel
theorem dX2_move_98 : decode cX2_move 98 = .ok (.iconst 1, 1) := by decide +kernel
theorem dX2_move_99 : decode cX2_move 99 = .ok (.istore 5, 2) := by decide +kernel
theorem dX2_move_101 : decode cX2_move 101 = .ok (.iload 5, 2) := by decide +kernel
theorem dX2_move_103 : decode cX2_move 103 = .ok (.bipush 7, 2) := by decide +kernel
theorem dX2_move_105 : decode cX2_move 105 = .ok (.if_icmp .gt 26, 3) := by decide +kernel
theorem dX2_move_108 : decode cX2_move 108 = .ok (.aload_n 0, 1) := by decide +kernel
theorem dX2_move_109 : decode cX2_move 109 = .ok (.getfield 28, 3) := by decide +kernel
theorem dX2_move_112 : decode cX2_move 112 = .ok (.iload 5, 2) := by decide +kernel
theorem dX2_move_114 : decode cX2_move 114 = .ok (.iload 5, 2) := by decide +kernel
theorem dX2_move_116 : decode cX2_move 116 = .ok (.aload_n 0, 1) := by decide +kernel
theorem dX2_move_117 : decode cX2_move 117 = .ok (.getfield 31, 3) := by decide +kernel
theorem dX2_move_120 : decode cX2_move 120 = .ok (.iconst 0, 1) := by decide +kernel
theorem dX2_move_121 : decode cX2_move 121 = .ok (.invokestatic 176, 3) := by decide +kernel
theorem dX2_move_124 : decode cX2_move 124 = .ok (.iastore, 1) := by decide +kernel
theorem dX2_move_125 : decode cX2_move 125 = .ok (.iinc 5 1, 3) := by decide +kernel
theorem dX2_move_128 : decode cX2_move 128 = .ok (.goto (-27), 3) := by decide +kernel
theorem dX2_move_131 : decode cX2_move 131 = .ok (.aload_n 0, 1) := by decide +kernel
theorem dX2_move_132 : decode cX2_move 132 = .ok (.getfield 12, 3) := by decide +kernel
theorem dX2_move_135 : decode cX2_move 135 = .ok (.getfield 106, 3) := by decide +kernel
theorem dX2_move_138 : decode cX2_move 138 = .ok (.iconst 0, 1) := by decide +kernel
theorem dX2_move_139 : decode cX2_move 139 = .ok (.invokestatic 180, 3) := by decide +kernel
theorem dX2_move_142 : decode cX2_move 142 = .ok (.aload_n 0, 1) := by decide +kernel
theorem dX2_move_143 : decode cX2_move 143 = .ok (.getfield 12, 3) := by decide +kernel
theorem dX2_move_146 : decode cX2_move 146 = .ok (.getfield 95, 3) := by decide +kernel
theorem dX2_move_149 : decode cX2_move 149 = .ok (.iconst 1, 1) := by decide +kernel
theorem dX2_move_150 : decode cX2_move 150 = .ok (.invokestatic 180, 3) := by decide +kernel
theorem dX2_move_153 : decode cX2_move 153 = .ok (.aload_n 0, 1) := by decide +kernel
theorem dX2_move_154 : decode cX2_move 154 = .ok (.iload_n 1, 1) := by decide +kernel
theorem dX2_move_155 : decode cX2_move 155 = .ok (.invokevirtual 170, 3) := by decide +kernel
theorem dX2_move_158 : decode cX2_move 158 = .ok (.aload_n 0, 1) := by decide +kernel
theorem dX2_move_159 : decode cX2_move 159 = .ok (.iload_n 1, 1) := by decide +kernel
theorem dX2_move_160 : decode cX2_move 160 = .ok (.invokevirtual 173, 3) := by decide +kernel
theorem dX2_move_163 : decode cX2_move 163 = .ok (.ireturn, 1) := by decide +kernel
set_option maxRecDepth 20000 in
theorem ggX2_offer_X5_sealOf : GoodIn wsX2_offer wsX5_sealOf := goodIn_r _ [8, 9, 10, 7, 11] (by decide +kernel) (by decide +kernel)
set_option maxRecDepth 20000 in
theorem gX2_offer_X5_sealOf : GoodIn wsX2_offer (va_wsS RX2 101 yX5_sealOf wsX5_sealOf) := goodIn_app (goodIn_of _ (by decide +kernel)) ggX2_offer_X5_sealOf
set_option maxRecDepth 20000 in
theorem ggX2_offer_X4_has : GoodIn wsX2_offer wsX4_has := goodIn_r _ [15] (by decide +kernel) (by decide +kernel)
set_option maxRecDepth 20000 in
theorem gX2_offer_X4_has : GoodIn wsX2_offer (va_wsS RX2 130 yX4_has wsX4_has) := goodIn_app (goodIn_of _ (by decide +kernel)) ggX2_offer_X4_has
set_option maxRecDepth 20000 in
theorem ggX2_offer_X2_sent : GoodIn wsX2_offer wsX2_sent := goodIn_r _ [20, 2, 1, 21, 22, 23, 24, 25, 26, 27, 28, 19, 29, 30, 31, 32, 33, 34, 35, 7, 36, 37, 38, 39, 51, 52, 53, 54, 55, 56, 57, 58, 59, 60, 61, 62, 63, 64, 65, 66, 67, 68] (by decide +kernel) (by decide +kernel)
set_option maxRecDepth 20000 in
theorem gX2_offer_X2_sent : GoodIn wsX2_offer (wsV RX2 186 RX2 yX2_sent wsX2_sent) := goodIn_app (goodIn_of _ (by decide +kernel)) ggX2_offer_X2_sent
set_option maxRecDepth 20000 in
theorem ggX2_offer_X5_fitting : GoodIn wsX2_offer wsX5_fitting := goodIn_r _ [42, 43, 31, 32, 33, 9, 10, 7, 11, 44, 45, 46, 47, 6, 8] (by decide +kernel) (by decide +kernel)
set_option maxRecDepth 20000 in
theorem gX2_offer_X5_fitting : GoodIn wsX2_offer (va_wsS RX2 150 yX5_fitting wsX5_fitting) := goodIn_app (goodIn_of _ (by decide +kernel)) ggX2_offer_X5_fitting
set_option maxRecDepth 20000 in
theorem ggX2_offer_X0_bend : GoodIn wsX2_offer wsX0_bend := goodIn_r _ [25, 26, 57, 58, 59, 60, 61, 62, 63, 64, 65, 66, 67, 68] (by decide +kernel) (by decide +kernel)
set_option maxRecDepth 20000 in
theorem gX2_offer_X0_bend : GoodIn wsX2_offer (wsV RX2 189 RX0 yX0_bend wsX0_bend) := goodIn_app (goodIn_of _ (by decide +kernel)) ggX2_offer_X0_bend
set_option maxRecDepth 20000 in
theorem ggX2_offer_X4_only : GoodIn wsX2_offer wsX4_only := goodIn_r _ [50] (by decide +kernel) (by decide +kernel)
set_option maxRecDepth 20000 in
theorem gX2_offer_X4_only : GoodIn wsX2_offer (va_wsS RX2 120 yX4_only wsX4_only) := goodIn_app (goodIn_of _ (by decide +kernel)) ggX2_offer_X4_only
theorem dX2_offer_0 : decode cX2_offer 0 = .ok (.iload_n 1, 1) := by decide +kernel
theorem dX2_offer_1 : decode cX2_offer 1 = .ok (.iconst 5, 1) := by decide +kernel
theorem dX2_offer_2 : decode cX2_offer 2 = .ok (.imul, 1) := by decide +kernel
theorem dX2_offer_3 : decode cX2_offer 3 = .ok (.istore 4, 2) := by decide +kernel
theorem dX2_offer_5 : decode cX2_offer 5 = .ok (.iconst 0, 1) := by decide +kernel
theorem dX2_offer_6 : decode cX2_offer 6 = .ok (.istore 5, 2) := by decide +kernel
theorem dX2_offer_8 : decode cX2_offer 8 = .ok (.iload 5, 2) := by decide +kernel
theorem dX2_offer_10 : decode cX2_offer 10 = .ok (.iload_n 3, 1) := by decide +kernel
theorem dX2_offer_11 : decode cX2_offer 11 = .ok (.if_icmp .ge 67, 3) := by decide +kernel
theorem dX2_offer_14 : decode cX2_offer 14 = .ok (.iload 5, 2) := by decide +kernel
theorem dX2_offer_16 : decode cX2_offer 16 = .ok (.iconst 5, 1) := by decide +kernel
theorem dX2_offer_17 : decode cX2_offer 17 = .ok (.if_icmp .ge 61, 3) := by decide +kernel
theorem dX2_offer_20 : decode cX2_offer 20 = .ok (.aload_n 0, 1) := by decide +kernel
theorem dX2_offer_21 : decode cX2_offer 21 = .ok (.getfield 22, 3) := by decide +kernel
theorem dX2_offer_24 : decode cX2_offer 24 = .ok (.iload 4, 2) := by decide +kernel
theorem dX2_offer_26 : decode cX2_offer 26 = .ok (.iload 5, 2) := by decide +kernel
theorem dX2_offer_28 : decode cX2_offer 28 = .ok (.iadd, 1) := by decide +kernel
theorem dX2_offer_29 : decode cX2_offer 29 = .ok (.iload 5, 2) := by decide +kernel
theorem dX2_offer_31 : decode cX2_offer 31 = .ok (.ifCond .ne 7, 3) := by decide +kernel
theorem dX2_offer_34 : decode cX2_offer 34 = .ok (.iload_n 2, 1) := by decide +kernel
theorem dX2_offer_35 : decode cX2_offer 35 = .ok (.goto 16, 3) := by decide +kernel
theorem dX2_offer_38 : decode cX2_offer 38 = .ok (.aload_n 0, 1) := by decide +kernel
theorem dX2_offer_39 : decode cX2_offer 39 = .ok (.getfield 12, 3) := by decide +kernel
theorem dX2_offer_42 : decode cX2_offer 42 = .ok (.getfield 98, 3) := by decide +kernel
theorem dX2_offer_45 : decode cX2_offer 45 = .ok (.iload 4, 2) := by decide +kernel
theorem dX2_offer_47 : decode cX2_offer 47 = .ok (.iload 5, 2) := by decide +kernel
theorem dX2_offer_49 : decode cX2_offer 49 = .ok (.iadd, 1) := by decide +kernel
theorem dX2_offer_50 : decode cX2_offer 50 = .ok (.iaload, 1) := by decide +kernel
theorem dX2_offer_51 : decode cX2_offer 51 = .ok (.iastore, 1) := by decide +kernel
theorem dX2_offer_52 : decode cX2_offer 52 = .ok (.aload_n 0, 1) := by decide +kernel
theorem dX2_offer_53 : decode cX2_offer 53 = .ok (.getfield 25, 3) := by decide +kernel
theorem dX2_offer_56 : decode cX2_offer 56 = .ok (.iload 5, 2) := by decide +kernel
theorem dX2_offer_58 : decode cX2_offer 58 = .ok (.aload_n 0, 1) := by decide +kernel
theorem dX2_offer_59 : decode cX2_offer 59 = .ok (.getfield 22, 3) := by decide +kernel
theorem dX2_offer_62 : decode cX2_offer 62 = .ok (.iload 4, 2) := by decide +kernel
theorem dX2_offer_64 : decode cX2_offer 64 = .ok (.iload 5, 2) := by decide +kernel
theorem dX2_offer_66 : decode cX2_offer 66 = .ok (.iadd, 1) := by decide +kernel
theorem dX2_offer_67 : decode cX2_offer 67 = .ok (.iaload, 1) := by decide +kernel
theorem dX2_offer_68 : decode cX2_offer 68 = .ok (.invokestatic 101, 3) := by decide +kernel
theorem dX2_offer_71 : decode cX2_offer 71 = .ok (.iastore, 1) := by decide +kernel
theorem dX2_offer_72 : decode cX2_offer 72 = .ok (.iinc 5 1, 3) := by decide +kernel
theorem dX2_offer_75 : decode cX2_offer 75 = .ok (.goto (-67), 3) := by decide +kernel
theorem dX2_offer_78 : decode cX2_offer 78 = .ok (.iconst 0, 1) := by decide +kernel
theorem dX2_offer_79 : decode cX2_offer 79 = .ok (.istore 5, 2) := by decide +kernel
theorem dX2_offer_81 : decode cX2_offer 81 = .ok (.iconst 0, 1) := by decide +kernel
theorem dX2_offer_82 : decode cX2_offer 82 = .ok (.istore 6, 2) := by decide +kernel
theorem dX2_offer_84 : decode cX2_offer 84 = .ok (.iconst 1, 1) := by decide +kernel
theorem dX2_offer_85 : decode cX2_offer 85 = .ok (.istore 7, 2) := by decide +kernel
theorem dX2_offer_87 : decode cX2_offer 87 = .ok (.iload 7, 2) := by decide +kernel
theorem dX2_offer_89 : decode cX2_offer 89 = .ok (.bipush 7, 2) := by decide +kernel
theorem dX2_offer_91 : decode cX2_offer 91 = .ok (.if_icmp .gt 92, 3) := by decide +kernel
theorem dX2_offer_94 : decode cX2_offer 94 = .ok (.aload_n 0, 1) := by decide +kernel
theorem dX2_offer_95 : decode cX2_offer 95 = .ok (.getfield 12, 3) := by decide +kernel
theorem dX2_offer_98 : decode cX2_offer 98 = .ok (.getfield 113, 3) := by decide +kernel
theorem dX2_offer_101 : decode cX2_offer 101 = .ok (.iload 7, 2) := by decide +kernel
theorem dX2_offer_103 : decode cX2_offer 103 = .ok (.invokestatic 130, 3) := by decide +kernel
theorem dX2_offer_106 : decode cX2_offer 106 = .ok (.ifCond .eq 71, 3) := by decide +kernel
theorem dX2_offer_109 : decode cX2_offer 109 = .ok (.aload_n 0, 1) := by decide +kernel
theorem dX2_offer_110 : decode cX2_offer 110 = .ok (.iload_n 1, 1) := by decide +kernel
theorem dX2_offer_111 : decode cX2_offer 111 = .ok (.iload 7, 2) := by decide +kernel
theorem dX2_offer_113 : decode cX2_offer 113 = .ok (.iload_n 3, 1) := by decide +kernel
theorem dX2_offer_114 : decode cX2_offer 114 = .ok (.invokevirtual 186, 3) := by decide +kernel
theorem dX2_offer_117 : decode cX2_offer 117 = .ok (.iload 7, 2) := by decide +kernel
theorem dX2_offer_119 : decode cX2_offer 119 = .ok (.aload_n 0, 1) := by decide +kernel
theorem dX2_offer_120 : decode cX2_offer 120 = .ok (.getfield 25, 3) := by decide +kernel
theorem dX2_offer_123 : decode cX2_offer 123 = .ok (.iload_n 3, 1) := by decide +kernel
theorem dX2_offer_124 : decode cX2_offer 124 = .ok (.invokestatic 150, 3) := by decide +kernel
theorem dX2_offer_127 : decode cX2_offer 127 = .ok (.istore 8, 2) := by decide +kernel
theorem dX2_offer_129 : decode cX2_offer 129 = .ok (.iload 8, 2) := by decide +kernel
theorem dX2_offer_131 : decode cX2_offer 131 = .ok (.ifCond .eq 17, 3) := by decide +kernel
theorem dX2_offer_134 : decode cX2_offer 134 = .ok (.aload_n 0, 1) := by decide +kernel
theorem dX2_offer_135 : decode cX2_offer 135 = .ok (.getfield 12, 3) := by decide +kernel
theorem dX2_offer_138 : decode cX2_offer 138 = .ok (.iload 7, 2) := by decide +kernel
theorem dX2_offer_140 : decode cX2_offer 140 = .ok (.iconst 3, 1) := by decide +kernel
theorem dX2_offer_141 : decode cX2_offer 141 = .ok (.invokevirtual 189, 3) := by decide +kernel
theorem dX2_offer_144 : decode cX2_offer 144 = .ok (.iload_n 1, 1) := by decide +kernel
theorem dX2_offer_145 : decode cX2_offer 145 = .ok (.if_icmp .ne 32, 3) := by decide +kernel
theorem dX2_offer_148 : decode cX2_offer 148 = .ok (.iload 5, 2) := by decide +kernel
theorem dX2_offer_150 : decode cX2_offer 150 = .ok (.iload 7, 2) := by decide +kernel
theorem dX2_offer_152 : decode cX2_offer 152 = .ok (.invokestatic 120, 3) := by decide +kernel
theorem dX2_offer_155 : decode cX2_offer 155 = .ok (.ior, 1) := by decide +kernel
theorem dX2_offer_156 : decode cX2_offer 156 = .ok (.istore 5, 2) := by decide +kernel
theorem dX2_offer_158 : decode cX2_offer 158 = .ok (.iload 6, 2) := by decide +kernel
theorem dX2_offer_160 : decode cX2_offer 160 = .ok (.iload 8, 2) := by decide +kernel
theorem dX2_offer_162 : decode cX2_offer 162 = .ok (.ifCond .eq 11, 3) := by decide +kernel
theorem dX2_offer_165 : decode cX2_offer 165 = .ok (.iload 7, 2) := by decide +kernel
theorem dX2_offer_167 : decode cX2_offer 167 = .ok (.invokestatic 120, 3) := by decide +kernel
theorem dX2_offer_170 : decode cX2_offer 170 = .ok (.goto 4, 3) := by decide +kernel
theorem dX2_offer_173 : decode cX2_offer 173 = .ok (.iconst 0, 1) := by decide +kernel
theorem dX2_offer_174 : decode cX2_offer 174 = .ok (.ior, 1) := by decide +kernel
theorem dX2_offer_175 : decode cX2_offer 175 = .ok (.istore 6, 2) := by decide +kernel
theorem dX2_offer_177 : decode cX2_offer 177 = .ok (.iinc 7 1, 3) := by decide +kernel
theorem dX2_offer_180 : decode cX2_offer 180 = .ok (.goto (-93), 3) := by decide +kernel
theorem dX2_offer_183 : decode cX2_offer 183 = .ok (.iload 5, 2) := by decide +kernel
theorem dX2_offer_185 : decode cX2_offer 185 = .ok (.ifCond .eq 34, 3) := by decide +kernel
theorem dX2_offer_188 : decode cX2_offer 188 = .ok (.aload_n 0, 1) := by decide +kernel
theorem dX2_offer_189 : decode cX2_offer 189 = .ok (.getfield 12, 3) := by decide +kernel
theorem dX2_offer_192 : decode cX2_offer 192 = .ok (.iload_n 1, 1) := by decide +kernel
theorem dX2_offer_193 : decode cX2_offer 193 = .ok (.iconst 4, 1) := by decide +kernel
theorem dX2_offer_194 : decode cX2_offer 194 = .ok (.invokevirtual 189, 3) := by decide +kernel
theorem dX2_offer_197 : decode cX2_offer 197 = .ok (.ifCond .ne 22, 3) := by decide +kernel
theorem dX2_offer_200 : decode cX2_offer 200 = .ok (.aload_n 0, 1) := by decide +kernel
theorem dX2_offer_201 : decode cX2_offer 201 = .ok (.getfield 12, 3) := by decide +kernel
theorem dX2_offer_204 : decode cX2_offer 204 = .ok (.dup, 1) := by decide +kernel
theorem dX2_offer_205 : decode cX2_offer 205 = .ok (.getfield 38, 3) := by decide +kernel
theorem dX2_offer_208 : decode cX2_offer 208 = .ok (.iload_n 1, 1) := by decide +kernel
theorem dX2_offer_209 : decode cX2_offer 209 = .ok (.invokestatic 120, 3) := by decide +kernel
theorem dX2_offer_212 : decode cX2_offer 212 = .ok (.ior, 1) := by decide +kernel
theorem dX2_offer_213 : decode cX2_offer 213 = .ok (.putfield 38, 3) := by decide +kernel
theorem dX2_offer_216 : decode cX2_offer 216 = .ok (.goto 30, 3) := by decide +kernel
theorem dX2_offer_219 : decode cX2_offer 219 = .ok (.aload_n 0, 1) := by decide +kernel
theorem dX2_offer_220 : decode cX2_offer 220 = .ok (.getfield 12, 3) := by decide +kernel
theorem dX2_offer_223 : decode cX2_offer 223 = .ok (.dup, 1) := by decide +kernel
theorem dX2_offer_224 : decode cX2_offer 224 = .ok (.getfield 35, 3) := by decide +kernel
theorem dX2_offer_227 : decode cX2_offer 227 = .ok (.iload 6, 2) := by decide +kernel
theorem dX2_offer_229 : decode cX2_offer 229 = .ok (.ior, 1) := by decide +kernel
theorem dX2_offer_230 : decode cX2_offer 230 = .ok (.putfield 35, 3) := by decide +kernel
theorem dX2_offer_233 : decode cX2_offer 233 = .ok (.aload_n 0, 1) := by decide +kernel
theorem dX2_offer_234 : decode cX2_offer 234 = .ok (.dup, 1) := by decide +kernel
theorem dX2_offer_235 : decode cX2_offer 235 = .ok (.getfield 31, 3) := by decide +kernel
theorem dX2_offer_238 : decode cX2_offer 238 = .ok (.iload_n 1, 1) := by decide +kernel
theorem dX2_offer_239 : decode cX2_offer 239 = .ok (.invokestatic 120, 3) := by decide +kernel
theorem dX2_offer_242 : decode cX2_offer 242 = .ok (.ior, 1) := by decide +kernel
theorem dX2_offer_243 : decode cX2_offer 243 = .ok (.putfield 31, 3) := by decide +kernel
theorem dX2_offer_246 : decode cX2_offer 246 = .ok (.return_, 1) := by decide +kernel
set_option maxRecDepth 20000 in
theorem ggX2_sent_X0_bend : GoodIn wsX2_sent wsX0_bend := goodIn_r _ [7, 8, 30, 31, 32, 33, 34, 35, 36, 37, 38, 39, 40, 41] (by decide +kernel) (by decide +kernel)
set_option maxRecDepth 20000 in
theorem gX2_sent_X0_bend : GoodIn wsX2_sent (wsV RX2 189 RX0 yX0_bend wsX0_bend) := goodIn_app (goodIn_of _ (by decide +kernel)) ggX2_sent_X0_bend
set_option maxRecDepth 20000 in
theorem ggX2_sent_X2_polynomialAt : GoodIn wsX2_sent wsX2_polynomialAt := goodIn_r _ [12, 13, 14, 15, 16, 17, 18, 19, 20, 21, 22, 23] (by decide +kernel) (by decide +kernel)
set_option maxRecDepth 20000 in
theorem gX2_sent_X2_polynomialAt : GoodIn wsX2_sent (va_wsS RX2 109 yX2_polynomialAt wsX2_polynomialAt) := goodIn_app (goodIn_of _ (by decide +kernel)) ggX2_sent_X2_polynomialAt
set_option maxRecDepth 20000 in
theorem ggX2_sent_X5_plus : GoodIn wsX2_sent wsX5_plus := goodIn_r _ [23] (by decide +kernel) (by decide +kernel)
set_option maxRecDepth 20000 in
theorem gX2_sent_X5_plus : GoodIn wsX2_sent (va_wsS RX2 192 yX5_plus wsX5_plus) := goodIn_app (goodIn_of _ (by decide +kernel)) ggX2_sent_X5_plus
theorem dX2_sent_0 : decode cX2_sent 0 = .ok (.aload_n 0, 1) := by decide +kernel
theorem dX2_sent_1 : decode cX2_sent 1 = .ok (.getfield 12, 3) := by decide +kernel
theorem dX2_sent_4 : decode cX2_sent 4 = .ok (.iload_n 1, 1) := by decide +kernel
theorem dX2_sent_5 : decode cX2_sent 5 = .ok (.iconst 2, 1) := by decide +kernel
theorem dX2_sent_6 : decode cX2_sent 6 = .ok (.invokevirtual 189, 3) := by decide +kernel
theorem dX2_sent_9 : decode cX2_sent 9 = .ok (.iload_n 2, 1) := by decide +kernel
theorem dX2_sent_10 : decode cX2_sent 10 = .ok (.if_icmp .ne 15, 3) := by decide +kernel
theorem dX2_sent_13 : decode cX2_sent 13 = .ok (.aload_n 0, 1) := by decide +kernel
theorem dX2_sent_14 : decode cX2_sent 14 = .ok (.getfield 12, 3) := by decide +kernel
theorem dX2_sent_17 : decode cX2_sent 17 = .ok (.iload_n 1, 1) := by decide +kernel
theorem dX2_sent_18 : decode cX2_sent 18 = .ok (.iconst 1, 1) := by decide +kernel
theorem dX2_sent_19 : decode cX2_sent 19 = .ok (.invokevirtual 189, 3) := by decide +kernel
theorem dX2_sent_22 : decode cX2_sent 22 = .ok (.goto 4, 3) := by decide +kernel
theorem dX2_sent_25 : decode cX2_sent 25 = .ok (.iconst 0, 1) := by decide +kernel
theorem dX2_sent_26 : decode cX2_sent 26 = .ok (.istore 4, 2) := by decide +kernel
theorem dX2_sent_28 : decode cX2_sent 28 = .ok (.aload_n 0, 1) := by decide +kernel
theorem dX2_sent_29 : decode cX2_sent 29 = .ok (.getfield 22, 3) := by decide +kernel
theorem dX2_sent_32 : decode cX2_sent 32 = .ok (.iload_n 1, 1) := by decide +kernel
theorem dX2_sent_33 : decode cX2_sent 33 = .ok (.iload_n 3, 1) := by decide +kernel
theorem dX2_sent_34 : decode cX2_sent 34 = .ok (.iload_n 2, 1) := by decide +kernel
theorem dX2_sent_35 : decode cX2_sent 35 = .ok (.invokestatic 109, 3) := by decide +kernel
theorem dX2_sent_38 : decode cX2_sent 38 = .ok (.iload 4, 2) := by decide +kernel
theorem dX2_sent_40 : decode cX2_sent 40 = .ok (.invokestatic 192, 3) := by decide +kernel
theorem dX2_sent_43 : decode cX2_sent 43 = .ok (.ireturn, 1) := by decide +kernel
set_option maxRecDepth 20000 in
theorem ggX2_pourTaken_X4_has : GoodIn wsX2_pourTaken wsX4_has := goodIn_r _ [5] (by decide +kernel) (by decide +kernel)
set_option maxRecDepth 20000 in
theorem gX2_pourTaken_X4_has : GoodIn wsX2_pourTaken (va_wsS RX2 130 yX4_has wsX4_has) := goodIn_app (goodIn_of _ (by decide +kernel)) ggX2_pourTaken_X4_has
set_option maxRecDepth 20000 in
theorem ggX2_pourTaken_X2_pour : GoodIn wsX2_pourTaken wsX2_pour := goodIn_r _ [10, 11, 12, 13, 2, 3, 4, 5, 14, 15, 9, 16, 17, 18, 19, 20, 21, 22, 23, 24, 25, 26, 27, 28, 29, 30, 31, 32, 33, 34, 35, 36, 37, 38, 39, 40, 41, 42, 43, 44, 45, 46, 47, 48, 49, 50, 51, 52, 53, 54, 55] (by decide +kernel) (by decide +kernel)
set_option maxRecDepth 20000 in
theorem gX2_pourTaken_X2_pour : GoodIn wsX2_pourTaken (wsV RX2 195 RX2 yX2_pour wsX2_pour) := goodIn_app (goodIn_of _ (by decide +kernel)) ggX2_pourTaken_X2_pour
theorem dX2_pourTaken_0 : decode cX2_pourTaken 0 = .ok (.iconst 1, 1) := by decide +kernel
theorem dX2_pourTaken_1 : decode cX2_pourTaken 1 = .ok (.istore_n 2, 1) := by decide +kernel
theorem dX2_pourTaken_2 : decode cX2_pourTaken 2 = .ok (.iload_n 2, 1) := by decide +kernel
theorem dX2_pourTaken_3 : decode cX2_pourTaken 3 = .ok (.bipush 7, 2) := by decide +kernel
theorem dX2_pourTaken_5 : decode cX2_pourTaken 5 = .ok (.if_icmp .gt 26, 3) := by decide +kernel
theorem dX2_pourTaken_8 : decode cX2_pourTaken 8 = .ok (.aload_n 0, 1) := by decide +kernel
theorem dX2_pourTaken_9 : decode cX2_pourTaken 9 = .ok (.getfield 31, 3) := by decide +kernel
theorem dX2_pourTaken_12 : decode cX2_pourTaken 12 = .ok (.iload_n 2, 1) := by decide +kernel
theorem dX2_pourTaken_13 : decode cX2_pourTaken 13 = .ok (.invokestatic 130, 3) := by decide +kernel
theorem dX2_pourTaken_16 : decode cX2_pourTaken 16 = .ok (.ifCond .eq 9, 3) := by decide +kernel
theorem dX2_pourTaken_19 : decode cX2_pourTaken 19 = .ok (.aload_n 0, 1) := by decide +kernel
theorem dX2_pourTaken_20 : decode cX2_pourTaken 20 = .ok (.iload_n 2, 1) := by decide +kernel
theorem dX2_pourTaken_21 : decode cX2_pourTaken 21 = .ok (.iload_n 1, 1) := by decide +kernel
theorem dX2_pourTaken_22 : decode cX2_pourTaken 22 = .ok (.invokevirtual 195, 3) := by decide +kernel
theorem dX2_pourTaken_25 : decode cX2_pourTaken 25 = .ok (.iinc 2 1, 3) := by decide +kernel
theorem dX2_pourTaken_28 : decode cX2_pourTaken 28 = .ok (.goto (-26), 3) := by decide +kernel
theorem dX2_pourTaken_31 : decode cX2_pourTaken 31 = .ok (.return_, 1) := by decide +kernel
set_option maxRecDepth 20000 in
theorem ggX2_pour_X4_has : GoodIn wsX2_pour wsX4_has := goodIn_r _ [7] (by decide +kernel) (by decide +kernel)
set_option maxRecDepth 20000 in
theorem gX2_pour_X4_has : GoodIn wsX2_pour (va_wsS RX2 130 yX4_has wsX4_has) := goodIn_app (goodIn_of _ (by decide +kernel)) ggX2_pour_X4_has
set_option maxRecDepth 20000 in
theorem ggX2_pour_X2_polynomialAt : GoodIn wsX2_pour wsX2_polynomialAt := goodIn_r _ [11, 12, 13, 14, 15, 16, 17, 18, 19, 20, 21, 22] (by decide +kernel) (by decide +kernel)
set_option maxRecDepth 20000 in
theorem gX2_pour_X2_polynomialAt : GoodIn wsX2_pour (va_wsS RX2 109 yX2_polynomialAt wsX2_polynomialAt) := goodIn_app (goodIn_of _ (by decide +kernel)) ggX2_pour_X2_polynomialAt
set_option maxRecDepth 20000 in
theorem ggX2_pour_X5_times : GoodIn wsX2_pour wsX5_times := goodIn_r _ [19] (by decide +kernel) (by decide +kernel)
set_option maxRecDepth 20000 in
theorem gX2_pour_X5_times : GoodIn wsX2_pour (va_wsS RX2 199 yX5_times wsX5_times) := goodIn_app (goodIn_of _ (by decide +kernel)) ggX2_pour_X5_times
set_option maxRecDepth 20000 in
theorem ggX2_pour_X5_plus : GoodIn wsX2_pour wsX5_plus := goodIn_r _ [22] (by decide +kernel) (by decide +kernel)
set_option maxRecDepth 20000 in
theorem gX2_pour_X5_plus : GoodIn wsX2_pour (va_wsS RX2 192 yX5_plus wsX5_plus) := goodIn_app (goodIn_of _ (by decide +kernel)) ggX2_pour_X5_plus
set_option maxRecDepth 20000 in
theorem ggX2_pour_X5_sealOf : GoodIn wsX2_pour wsX5_sealOf := goodIn_r _ [25, 26, 27, 18, 28] (by decide +kernel) (by decide +kernel)
set_option maxRecDepth 20000 in
theorem gX2_pour_X5_sealOf : GoodIn wsX2_pour (va_wsS RX2 101 yX5_sealOf wsX5_sealOf) := goodIn_app (goodIn_of _ (by decide +kernel)) ggX2_pour_X5_sealOf
set_option maxRecDepth 20000 in
theorem ggX2_pour_X5_raised : GoodIn wsX2_pour wsX5_raised := goodIn_r _ [28] (by decide +kernel) (by decide +kernel)
set_option maxRecDepth 20000 in
theorem gX2_pour_X5_raised : GoodIn wsX2_pour (va_wsS RX2 202 yX5_raised wsX5_raised) := goodIn_app (goodIn_of _ (by decide +kernel)) ggX2_pour_X5_raised
set_option maxRecDepth 20000 in
theorem ggX2_pour_X5_joined : GoodIn wsX2_pour wsX5_joined := goodIn_r _ [32] (by decide +kernel) (by decide +kernel)
set_option maxRecDepth 20000 in
theorem gX2_pour_X5_joined : GoodIn wsX2_pour (va_wsS RX2 205 yX5_joined wsX5_joined) := goodIn_app (goodIn_of _ (by decide +kernel)) ggX2_pour_X5_joined
theorem dX2_pour_0 : decode cX2_pour 0 = .ok (.iconst 1, 1) := by decide +kernel
theorem dX2_pour_1 : decode cX2_pour 1 = .ok (.istore_n 3, 1) := by decide +kernel
theorem dX2_pour_2 : decode cX2_pour 2 = .ok (.iload_n 3, 1) := by decide +kernel
theorem dX2_pour_3 : decode cX2_pour 3 = .ok (.bipush 7, 2) := by decide +kernel
theorem dX2_pour_5 : decode cX2_pour 5 = .ok (.if_icmp .gt 67, 3) := by decide +kernel
theorem dX2_pour_8 : decode cX2_pour 8 = .ok (.aload_n 0, 1) := by decide +kernel
theorem dX2_pour_9 : decode cX2_pour 9 = .ok (.getfield 12, 3) := by decide +kernel
theorem dX2_pour_12 : decode cX2_pour 12 = .ok (.getfield 113, 3) := by decide +kernel
theorem dX2_pour_15 : decode cX2_pour 15 = .ok (.iload_n 3, 1) := by decide +kernel
theorem dX2_pour_16 : decode cX2_pour 16 = .ok (.invokestatic 130, 3) := by decide +kernel
theorem dX2_pour_19 : decode cX2_pour 19 = .ok (.ifCond .eq 47, 3) := by decide +kernel
theorem dX2_pour_22 : decode cX2_pour 22 = .ok (.aload_n 0, 1) := by decide +kernel
theorem dX2_pour_23 : decode cX2_pour 23 = .ok (.getfield 28, 3) := by decide +kernel
theorem dX2_pour_26 : decode cX2_pour 26 = .ok (.iload_n 1, 1) := by decide +kernel
theorem dX2_pour_27 : decode cX2_pour 27 = .ok (.iaload, 1) := by decide +kernel
theorem dX2_pour_28 : decode cX2_pour 28 = .ok (.aload_n 0, 1) := by decide +kernel
theorem dX2_pour_29 : decode cX2_pour 29 = .ok (.getfield 22, 3) := by decide +kernel
theorem dX2_pour_32 : decode cX2_pour 32 = .ok (.iload_n 1, 1) := by decide +kernel
theorem dX2_pour_33 : decode cX2_pour 33 = .ok (.iload_n 2, 1) := by decide +kernel
theorem dX2_pour_34 : decode cX2_pour 34 = .ok (.iload_n 3, 1) := by decide +kernel
theorem dX2_pour_35 : decode cX2_pour 35 = .ok (.invokestatic 109, 3) := by decide +kernel
theorem dX2_pour_38 : decode cX2_pour 38 = .ok (.invokestatic 199, 3) := by decide +kernel
theorem dX2_pour_41 : decode cX2_pour 41 = .ok (.istore 4, 2) := by decide +kernel
theorem dX2_pour_43 : decode cX2_pour 43 = .ok (.aload_n 0, 1) := by decide +kernel
theorem dX2_pour_44 : decode cX2_pour 44 = .ok (.getfield 12, 3) := by decide +kernel
theorem dX2_pour_47 : decode cX2_pour 47 = .ok (.getfield 106, 3) := by decide +kernel
theorem dX2_pour_50 : decode cX2_pour 50 = .ok (.iload_n 3, 1) := by decide +kernel
theorem dX2_pour_51 : decode cX2_pour 51 = .ok (.aload_n 0, 1) := by decide +kernel
theorem dX2_pour_52 : decode cX2_pour 52 = .ok (.getfield 12, 3) := by decide +kernel
theorem dX2_pour_55 : decode cX2_pour 55 = .ok (.getfield 106, 3) := by decide +kernel
theorem dX2_pour_58 : decode cX2_pour 58 = .ok (.iload_n 3, 1) := by decide +kernel
theorem dX2_pour_59 : decode cX2_pour 59 = .ok (.iaload, 1) := by decide +kernel
theorem dX2_pour_60 : decode cX2_pour 60 = .ok (.iload 4, 2) := by decide +kernel
theorem dX2_pour_62 : decode cX2_pour 62 = .ok (.invokestatic 192, 3) := by decide +kernel
theorem dX2_pour_65 : decode cX2_pour 65 = .ok (.iastore, 1) := by decide +kernel
theorem dX2_pour_66 : decode cX2_pour 66 = .ok (.iinc 3 1, 3) := by decide +kernel
theorem dX2_pour_69 : decode cX2_pour 69 = .ok (.goto (-67), 3) := by decide +kernel
theorem dX2_pour_72 : decode cX2_pour 72 = .ok (.iconst 0, 1) := by decide +kernel
theorem dX2_pour_73 : decode cX2_pour 73 = .ok (.istore_n 3, 1) := by decide +kernel
theorem dX2_pour_74 : decode cX2_pour 74 = .ok (.iload_n 3, 1) := by decide +kernel
theorem dX2_pour_75 : decode cX2_pour 75 = .ok (.iload_n 2, 1) := by decide +kernel
theorem dX2_pour_76 : decode cX2_pour 76 = .ok (.if_icmp .ge 61, 3) := by decide +kernel
theorem dX2_pour_79 : decode cX2_pour 79 = .ok (.iload_n 3, 1) := by decide +kernel
theorem dX2_pour_80 : decode cX2_pour 80 = .ok (.iconst 5, 1) := by decide +kernel
theorem dX2_pour_81 : decode cX2_pour 81 = .ok (.if_icmp .ge 56, 3) := by decide +kernel
theorem dX2_pour_84 : decode cX2_pour 84 = .ok (.aload_n 0, 1) := by decide +kernel
theorem dX2_pour_85 : decode cX2_pour 85 = .ok (.getfield 22, 3) := by decide +kernel
theorem dX2_pour_88 : decode cX2_pour 88 = .ok (.iload_n 1, 1) := by decide +kernel
theorem dX2_pour_89 : decode cX2_pour 89 = .ok (.iconst 5, 1) := by decide +kernel
theorem dX2_pour_90 : decode cX2_pour 90 = .ok (.imul, 1) := by decide +kernel
theorem dX2_pour_91 : decode cX2_pour 91 = .ok (.iload_n 3, 1) := by decide +kernel
theorem dX2_pour_92 : decode cX2_pour 92 = .ok (.iadd, 1) := by decide +kernel
theorem dX2_pour_93 : decode cX2_pour 93 = .ok (.iaload, 1) := by decide +kernel
theorem dX2_pour_94 : decode cX2_pour 94 = .ok (.invokestatic 101, 3) := by decide +kernel
theorem dX2_pour_97 : decode cX2_pour 97 = .ok (.aload_n 0, 1) := by decide +kernel
theorem dX2_pour_98 : decode cX2_pour 98 = .ok (.getfield 28, 3) := by decide +kernel
theorem dX2_pour_101 : decode cX2_pour 101 = .ok (.iload_n 1, 1) := by decide +kernel
theorem dX2_pour_102 : decode cX2_pour 102 = .ok (.iaload, 1) := by decide +kernel
theorem dX2_pour_103 : decode cX2_pour 103 = .ok (.invokestatic 202, 3) := by decide +kernel
theorem dX2_pour_106 : decode cX2_pour 106 = .ok (.istore 4, 2) := by decide +kernel
theorem dX2_pour_108 : decode cX2_pour 108 = .ok (.aload_n 0, 1) := by decide +kernel
theorem dX2_pour_109 : decode cX2_pour 109 = .ok (.getfield 12, 3) := by decide +kernel
theorem dX2_pour_112 : decode cX2_pour 112 = .ok (.getfield 95, 3) := by decide +kernel
theorem dX2_pour_115 : decode cX2_pour 115 = .ok (.iload_n 3, 1) := by decide +kernel
theorem dX2_pour_116 : decode cX2_pour 116 = .ok (.aload_n 0, 1) := by decide +kernel
theorem dX2_pour_117 : decode cX2_pour 117 = .ok (.getfield 12, 3) := by decide +kernel
theorem dX2_pour_120 : decode cX2_pour 120 = .ok (.getfield 95, 3) := by decide +kernel
theorem dX2_pour_123 : decode cX2_pour 123 = .ok (.iload_n 3, 1) := by decide +kernel
theorem dX2_pour_124 : decode cX2_pour 124 = .ok (.iaload, 1) := by decide +kernel
theorem dX2_pour_125 : decode cX2_pour 125 = .ok (.iload 4, 2) := by decide +kernel
theorem dX2_pour_127 : decode cX2_pour 127 = .ok (.invokestatic 205, 3) := by decide +kernel
theorem dX2_pour_130 : decode cX2_pour 130 = .ok (.iastore, 1) := by decide +kernel
theorem dX2_pour_131 : decode cX2_pour 131 = .ok (.iinc 3 1, 3) := by decide +kernel
theorem dX2_pour_134 : decode cX2_pour 134 = .ok (.goto (-60), 3) := by decide +kernel
theorem dX2_pour_137 : decode cX2_pour 137 = .ok (.return_, 1) := by decide +kernel
set_option maxRecDepth 20000 in
theorem ggX2_closeEpoch_X0_beginEpoch : GoodIn wsX2_closeEpoch wsX0_beginEpoch := goodIn_r _ [6, 7, 8, 9, 10, 11, 12, 5, 13, 27, 28, 29, 30, 31, 32, 33, 34, 35, 36, 37, 38] (by decide +kernel) (by decide +kernel)
set_option maxRecDepth 20000 in
theorem gX2_closeEpoch_X0_beginEpoch : GoodIn wsX2_closeEpoch (wsV RX2 116 RX0 yX0_beginEpoch wsX0_beginEpoch) := goodIn_app (goodIn_of _ (by decide +kernel)) ggX2_closeEpoch_X0_beginEpoch
set_option maxRecDepth 20000 in
theorem ggX2_closeEpoch_J6_bitCount_0f7a4 : GoodIn wsX2_closeEpoch wsJ6_bitCount_0f7a4 := goodIn_r _ [17, 18, 19, 20] (by decide +kernel) (by decide +kernel)
set_option maxRecDepth 20000 in
theorem gX2_closeEpoch_J6_bitCount_0f7a4 : GoodIn wsX2_closeEpoch (va_wsS RX2 125 yJ6_bitCount_0f7a4 wsJ6_bitCount_0f7a4) := goodIn_app (goodIn_of _ (by decide +kernel)) ggX2_closeEpoch_J6_bitCount_0f7a4
theorem dX2_closeEpoch_0 : decode cX2_closeEpoch 0 = .ok (.aload_n 0, 1) := by decide +kernel
theorem dX2_closeEpoch_1 : decode cX2_closeEpoch 1 = .ok (.getfield 12, 3) := by decide +kernel
theorem dX2_closeEpoch_4 : decode cX2_closeEpoch 4 = .ok (.iload_n 1, 1) := by decide +kernel
theorem dX2_closeEpoch_5 : decode cX2_closeEpoch 5 = .ok (.invokevirtual 116, 3) := by decide +kernel
theorem dX2_closeEpoch_8 : decode cX2_closeEpoch 8 = .ok (.aload_n 0, 1) := by decide +kernel
theorem dX2_closeEpoch_9 : decode cX2_closeEpoch 9 = .ok (.getfield 12, 3) := by decide +kernel
theorem dX2_closeEpoch_12 : decode cX2_closeEpoch 12 = .ok (.dup, 1) := by decide +kernel
theorem dX2_closeEpoch_13 : decode cX2_closeEpoch 13 = .ok (.getfield 113, 3) := by decide +kernel
theorem dX2_closeEpoch_16 : decode cX2_closeEpoch 16 = .ok (.aload_n 0, 1) := by decide +kernel
theorem dX2_closeEpoch_17 : decode cX2_closeEpoch 17 = .ok (.getfield 12, 3) := by decide +kernel
theorem dX2_closeEpoch_20 : decode cX2_closeEpoch 20 = .ok (.getfield 38, 3) := by decide +kernel
theorem dX2_closeEpoch_23 : decode cX2_closeEpoch 23 = .ok (.iconst (-1), 1) := by decide +kernel
theorem dX2_closeEpoch_24 : decode cX2_closeEpoch 24 = .ok (.ixor, 1) := by decide +kernel
theorem dX2_closeEpoch_25 : decode cX2_closeEpoch 25 = .ok (.iand, 1) := by decide +kernel
theorem dX2_closeEpoch_26 : decode cX2_closeEpoch 26 = .ok (.putfield 113, 3) := by decide +kernel
theorem dX2_closeEpoch_29 : decode cX2_closeEpoch 29 = .ok (.aload_n 0, 1) := by decide +kernel
theorem dX2_closeEpoch_30 : decode cX2_closeEpoch 30 = .ok (.getfield 12, 3) := by decide +kernel
theorem dX2_closeEpoch_33 : decode cX2_closeEpoch 33 = .ok (.getfield 113, 3) := by decide +kernel
theorem dX2_closeEpoch_36 : decode cX2_closeEpoch 36 = .ok (.invokestatic 125, 3) := by decide +kernel
theorem dX2_closeEpoch_39 : decode cX2_closeEpoch 39 = .ok (.ireturn, 1) := by decide +kernel
set_option maxRecDepth 20000 in
theorem ggX2_polynomialAt_X5_times : GoodIn wsX2_polynomialAt wsX5_times := goodIn_r _ [8] (by decide +kernel) (by decide +kernel)
set_option maxRecDepth 20000 in
theorem gX2_polynomialAt_X5_times : GoodIn wsX2_polynomialAt (va_wsS RX2 199 yX5_times wsX5_times) := goodIn_app (goodIn_of _ (by decide +kernel)) ggX2_polynomialAt_X5_times
set_option maxRecDepth 20000 in
theorem ggX2_polynomialAt_X5_plus : GoodIn wsX2_polynomialAt wsX5_plus := goodIn_r _ [11] (by decide +kernel) (by decide +kernel)
set_option maxRecDepth 20000 in
theorem gX2_polynomialAt_X5_plus : GoodIn wsX2_polynomialAt (va_wsS RX2 192 yX5_plus wsX5_plus) := goodIn_app (goodIn_of _ (by decide +kernel)) ggX2_polynomialAt_X5_plus
theorem dX2_polynomialAt_0 : decode cX2_polynomialAt 0 = .ok (.iconst 0, 1) := by decide +kernel
theorem dX2_polynomialAt_1 : decode cX2_polynomialAt 1 = .ok (.istore 4, 2) := by decide +kernel
theorem dX2_polynomialAt_3 : decode cX2_polynomialAt 3 = .ok (.iload_n 2, 1) := by decide +kernel
theorem dX2_polynomialAt_4 : decode cX2_polynomialAt 4 = .ok (.iconst 5, 1) := by decide +kernel
theorem dX2_polynomialAt_5 : decode cX2_polynomialAt 5 = .ok (.invokestatic 208, 3) := by decide +kernel
theorem dX2_polynomialAt_8 : decode cX2_polynomialAt 8 = .ok (.iconst 1, 1) := by decide +kernel
theorem dX2_polynomialAt_9 : decode cX2_polynomialAt 9 = .ok (.isub, 1) := by decide +kernel
theorem dX2_polynomialAt_10 : decode cX2_polynomialAt 10 = .ok (.istore 5, 2) := by decide +kernel
theorem dX2_polynomialAt_12 : decode cX2_polynomialAt 12 = .ok (.iload 5, 2) := by decide +kernel
theorem dX2_polynomialAt_14 : decode cX2_polynomialAt 14 = .ok (.ifCond .lt 52, 3) := by decide +kernel
theorem dX2_polynomialAt_17 : decode cX2_polynomialAt 17 = .ok (.iload_n 1, 1) := by decide +kernel
theorem dX2_polynomialAt_18 : decode cX2_polynomialAt 18 = .ok (.iconst 5, 1) := by decide +kernel
theorem dX2_polynomialAt_19 : decode cX2_polynomialAt 19 = .ok (.imul, 1) := by decide +kernel
theorem dX2_polynomialAt_20 : decode cX2_polynomialAt 20 = .ok (.iload 5, 2) := by decide +kernel
theorem dX2_polynomialAt_22 : decode cX2_polynomialAt 22 = .ok (.iadd, 1) := by decide +kernel
theorem dX2_polynomialAt_23 : decode cX2_polynomialAt 23 = .ok (.istore 6, 2) := by decide +kernel
theorem dX2_polynomialAt_25 : decode cX2_polynomialAt 25 = .ok (.iload 6, 2) := by decide +kernel
theorem dX2_polynomialAt_27 : decode cX2_polynomialAt 27 = .ok (.ifCond .lt 17, 3) := by decide +kernel
theorem dX2_polynomialAt_30 : decode cX2_polynomialAt 30 = .ok (.iload 6, 2) := by decide +kernel
theorem dX2_polynomialAt_32 : decode cX2_polynomialAt 32 = .ok (.aload_n 0, 1) := by decide +kernel
theorem dX2_polynomialAt_33 : decode cX2_polynomialAt 33 = .ok (.arraylength, 1) := by decide +kernel
theorem dX2_polynomialAt_34 : decode cX2_polynomialAt 34 = .ok (.if_icmp .ge 10, 3) := by decide +kernel
theorem dX2_polynomialAt_37 : decode cX2_polynomialAt 37 = .ok (.aload_n 0, 1) := by decide +kernel
theorem dX2_polynomialAt_38 : decode cX2_polynomialAt 38 = .ok (.iload 6, 2) := by decide +kernel
theorem dX2_polynomialAt_40 : decode cX2_polynomialAt 40 = .ok (.iaload, 1) := by decide +kernel
theorem dX2_polynomialAt_41 : decode cX2_polynomialAt 41 = .ok (.goto 4, 3) := by decide +kernel
theorem dX2_polynomialAt_44 : decode cX2_polynomialAt 44 = .ok (.iconst 0, 1) := by decide +kernel
theorem dX2_polynomialAt_45 : decode cX2_polynomialAt 45 = .ok (.istore 7, 2) := by decide +kernel
theorem dX2_polynomialAt_47 : decode cX2_polynomialAt 47 = .ok (.iload 4, 2) := by decide +kernel
theorem dX2_polynomialAt_49 : decode cX2_polynomialAt 49 = .ok (.iload_n 3, 1) := by decide +kernel
theorem dX2_polynomialAt_50 : decode cX2_polynomialAt 50 = .ok (.invokestatic 199, 3) := by decide +kernel
theorem dX2_polynomialAt_53 : decode cX2_polynomialAt 53 = .ok (.iload 7, 2) := by decide +kernel
theorem dX2_polynomialAt_55 : decode cX2_polynomialAt 55 = .ok (.invokestatic 192, 3) := by decide +kernel
theorem dX2_polynomialAt_58 : decode cX2_polynomialAt 58 = .ok (.istore 4, 2) := by decide +kernel
theorem dX2_polynomialAt_60 : decode cX2_polynomialAt 60 = .ok (.iinc 5 (-1), 3) := by decide +kernel
theorem dX2_polynomialAt_63 : decode cX2_polynomialAt 63 = .ok (.goto (-51), 3) := by decide +kernel
theorem dX2_polynomialAt_66 : decode cX2_polynomialAt 66 = .ok (.iload 4, 2) := by decide +kernel
theorem dX2_polynomialAt_68 : decode cX2_polynomialAt 68 = .ok (.ireturn, 1) := by decide +kernel
set_option maxRecDepth 20000 in
theorem ggX2_opened_X1_victims : GoodIn wsX2_opened wsX1_victims := goodIn_r _ [7, 8, 9, 10, 11, 12, 13, 14, 72, 73, 74, 75] (by decide +kernel) (by decide +kernel)
set_option maxRecDepth 20000 in
theorem gX2_opened_X1_victims : GoodIn wsX2_opened (wsV RX2 213 RX1 yX1_victims wsX1_victims) := goodIn_app (goodIn_of _ (by decide +kernel)) ggX2_opened_X1_victims
set_option maxRecDepth 20000 in
theorem ggX2_opened_J6_bitCount_0f7a4 : GoodIn wsX2_opened wsJ6_bitCount_0f7a4 := goodIn_r _ [18, 19, 20, 21] (by decide +kernel) (by decide +kernel)
set_option maxRecDepth 20000 in
theorem gX2_opened_J6_bitCount_0f7a4 : GoodIn wsX2_opened (va_wsS RX2 125 yJ6_bitCount_0f7a4 wsJ6_bitCount_0f7a4) := goodIn_app (goodIn_of _ (by decide +kernel)) ggX2_opened_J6_bitCount_0f7a4
set_option maxRecDepth 20000 in
theorem ggX2_opened_X4_lowest : GoodIn wsX2_opened wsX4_lowest := goodIn_r _ [24, 25, 26, 13, 27, 28, 12, 14] (by decide +kernel) (by decide +kernel)
set_option maxRecDepth 20000 in
theorem gX2_opened_X4_lowest : GoodIn wsX2_opened (va_wsS RX2 140 yX4_lowest wsX4_lowest) := goodIn_app (goodIn_of _ (by decide +kernel)) ggX2_opened_X4_lowest
set_option maxRecDepth 20000 in
theorem ggX2_opened_X1_firstShare : GoodIn wsX2_opened wsX1_firstShare := goodIn_r _ [32, 8, 10, 9, 33, 72, 73, 74, 75] (by decide +kernel) (by decide +kernel)
set_option maxRecDepth 20000 in
theorem gX2_opened_X1_firstShare : GoodIn wsX2_opened (wsV RX2 216 RX1 yX1_firstShare wsX1_firstShare) := goodIn_app (goodIn_of _ (by decide +kernel)) ggX2_opened_X1_firstShare
set_option maxRecDepth 20000 in
theorem ggX2_opened_X5_weighed : GoodIn wsX2_opened wsX5_weighed := goodIn_r _ [37, 38, 26, 13, 27, 39, 40, 36, 41, 42, 43, 44, 45, 46, 47, 48, 49, 50, 51, 52, 53] (by decide +kernel) (by decide +kernel)
set_option maxRecDepth 20000 in
theorem gX2_opened_X5_weighed : GoodIn wsX2_opened (va_wsS RX2 143 yX5_weighed wsX5_weighed) := goodIn_app (goodIn_of _ (by decide +kernel)) ggX2_opened_X5_weighed
theorem dX2_opened_0 : decode cX2_opened 0 = .ok (.aload_n 0, 1) := by decide +kernel
theorem dX2_opened_1 : decode cX2_opened 1 = .ok (.getfield 12, 3) := by decide +kernel
theorem dX2_opened_4 : decode cX2_opened 4 = .ok (.getfield 87, 3) := by decide +kernel
theorem dX2_opened_7 : decode cX2_opened 7 = .ok (.iload_n 1, 1) := by decide +kernel
theorem dX2_opened_8 : decode cX2_opened 8 = .ok (.invokevirtual 213, 3) := by decide +kernel
theorem dX2_opened_11 : decode cX2_opened 11 = .ok (.istore_n 3, 1) := by decide +kernel
theorem dX2_opened_12 : decode cX2_opened 12 = .ok (.iload_n 3, 1) := by decide +kernel
theorem dX2_opened_13 : decode cX2_opened 13 = .ok (.invokestatic 125, 3) := by decide +kernel
theorem dX2_opened_16 : decode cX2_opened 16 = .ok (.iload_n 2, 1) := by decide +kernel
theorem dX2_opened_17 : decode cX2_opened 17 = .ok (.if_icmp .ge 6, 3) := by decide +kernel
theorem dX2_opened_20 : decode cX2_opened 20 = .ok (.bipush (-6), 2) := by decide +kernel
theorem dX2_opened_22 : decode cX2_opened 22 = .ok (.ireturn, 1) := by decide +kernel
theorem dX2_opened_23 : decode cX2_opened 23 = .ok (.iload_n 3, 1) := by decide +kernel
theorem dX2_opened_24 : decode cX2_opened 24 = .ok (.iload_n 2, 1) := by decide +kernel
theorem dX2_opened_25 : decode cX2_opened 25 = .ok (.invokestatic 140, 3) := by decide +kernel
theorem dX2_opened_28 : decode cX2_opened 28 = .ok (.istore 4, 2) := by decide +kernel
theorem dX2_opened_30 : decode cX2_opened 30 = .ok (.iconst 1, 1) := by decide +kernel
theorem dX2_opened_31 : decode cX2_opened 31 = .ok (.istore 5, 2) := by decide +kernel
theorem dX2_opened_33 : decode cX2_opened 33 = .ok (.iload 5, 2) := by decide +kernel
theorem dX2_opened_35 : decode cX2_opened 35 = .ok (.bipush 7, 2) := by decide +kernel
theorem dX2_opened_37 : decode cX2_opened 37 = .ok (.if_icmp .gt 29, 3) := by decide +kernel
theorem dX2_opened_40 : decode cX2_opened 40 = .ok (.aload_n 0, 1) := by decide +kernel
theorem dX2_opened_41 : decode cX2_opened 41 = .ok (.getfield 18, 3) := by decide +kernel
theorem dX2_opened_44 : decode cX2_opened 44 = .ok (.iload 5, 2) := by decide +kernel
theorem dX2_opened_46 : decode cX2_opened 46 = .ok (.aload_n 0, 1) := by decide +kernel
theorem dX2_opened_47 : decode cX2_opened 47 = .ok (.getfield 12, 3) := by decide +kernel
theorem dX2_opened_50 : decode cX2_opened 50 = .ok (.getfield 87, 3) := by decide +kernel
theorem dX2_opened_53 : decode cX2_opened 53 = .ok (.iload 5, 2) := by decide +kernel
theorem dX2_opened_55 : decode cX2_opened 55 = .ok (.iload_n 1, 1) := by decide +kernel
theorem dX2_opened_56 : decode cX2_opened 56 = .ok (.invokevirtual 216, 3) := by decide +kernel
theorem dX2_opened_59 : decode cX2_opened 59 = .ok (.iastore, 1) := by decide +kernel
theorem dX2_opened_60 : decode cX2_opened 60 = .ok (.iinc 5 1, 3) := by decide +kernel
theorem dX2_opened_63 : decode cX2_opened 63 = .ok (.goto (-30), 3) := by decide +kernel
theorem dX2_opened_66 : decode cX2_opened 66 = .ok (.aload_n 0, 1) := by decide +kernel
theorem dX2_opened_67 : decode cX2_opened 67 = .ok (.getfield 18, 3) := by decide +kernel
theorem dX2_opened_70 : decode cX2_opened 70 = .ok (.iload 4, 2) := by decide +kernel
theorem dX2_opened_72 : decode cX2_opened 72 = .ok (.iconst 0, 1) := by decide +kernel
theorem dX2_opened_73 : decode cX2_opened 73 = .ok (.invokestatic 143, 3) := by decide +kernel
theorem dX2_opened_76 : decode cX2_opened 76 = .ok (.ireturn, 1) := by decide +kernel
set_option maxRecDepth 20000 in
theorem ggX2_worldsLeft_X0_thresholdOf : GoodIn wsX2_worldsLeft wsX0_thresholdOf := goodIn_r _ [6, 7, 8, 9, 10, 5, 11, 12, 76, 77, 78, 79, 80, 81, 82, 83, 84, 85, 86, 87] (by decide +kernel) (by decide +kernel)
set_option maxRecDepth 20000 in
theorem gX2_worldsLeft_X0_thresholdOf : GoodIn wsX2_worldsLeft (wsV RX2 219 RX0 yX0_thresholdOf wsX0_thresholdOf) := goodIn_app (goodIn_of _ (by decide +kernel)) ggX2_worldsLeft_X0_thresholdOf
set_option maxRecDepth 20000 in
theorem ggX2_worldsLeft_X1_victims : GoodIn wsX2_worldsLeft wsX1_victims := goodIn_r _ [17, 18, 19, 20, 21, 22, 23, 24, 88, 89, 90, 91] (by decide +kernel) (by decide +kernel)
set_option maxRecDepth 20000 in
theorem gX2_worldsLeft_X1_victims : GoodIn wsX2_worldsLeft (wsV RX2 213 RX1 yX1_victims wsX1_victims) := goodIn_app (goodIn_of _ (by decide +kernel)) ggX2_worldsLeft_X1_victims
set_option maxRecDepth 20000 in
theorem ggX2_worldsLeft_J6_bitCount_0f7a4 : GoodIn wsX2_worldsLeft wsJ6_bitCount_0f7a4 := goodIn_r _ [28, 29, 30, 31] (by decide +kernel) (by decide +kernel)
set_option maxRecDepth 20000 in
theorem gX2_worldsLeft_J6_bitCount_0f7a4 : GoodIn wsX2_worldsLeft (va_wsS RX2 125 yJ6_bitCount_0f7a4 wsJ6_bitCount_0f7a4) := goodIn_app (goodIn_of _ (by decide +kernel)) ggX2_worldsLeft_J6_bitCount_0f7a4
set_option maxRecDepth 20000 in
theorem ggX2_worldsLeft_X2_opened : GoodIn wsX2_worldsLeft wsX2_opened := goodIn_r _ [36, 1, 37, 13, 14, 15, 16, 17, 18, 19, 20, 21, 22, 23, 24, 25, 26, 27, 28, 29, 30, 31, 38, 39, 40, 41, 42, 43, 44, 45, 46, 47, 48, 49, 50, 51, 52, 53, 54, 55, 56, 57, 58, 59, 60, 61, 62, 63, 64, 65, 66, 67, 68, 69, 70, 71, 72, 73, 74, 75, 76, 77, 78, 79, 80, 81, 82, 83, 84, 85, 86, 87, 88, 89, 90, 91] (by decide +kernel) (by decide +kernel)
set_option maxRecDepth 20000 in
theorem gX2_worldsLeft_X2_opened : GoodIn wsX2_worldsLeft (wsV RX2 222 RX2 yX2_opened wsX2_opened) := goodIn_app (goodIn_of _ (by decide +kernel)) ggX2_worldsLeft_X2_opened
theorem dX2_worldsLeft_0 : decode cX2_worldsLeft 0 = .ok (.aload_n 0, 1) := by decide +kernel
theorem dX2_worldsLeft_1 : decode cX2_worldsLeft 1 = .ok (.getfield 12, 3) := by decide +kernel
theorem dX2_worldsLeft_4 : decode cX2_worldsLeft 4 = .ok (.iload_n 1, 1) := by decide +kernel
theorem dX2_worldsLeft_5 : decode cX2_worldsLeft 5 = .ok (.invokevirtual 219, 3) := by decide +kernel
theorem dX2_worldsLeft_8 : decode cX2_worldsLeft 8 = .ok (.istore_n 3, 1) := by decide +kernel
theorem dX2_worldsLeft_9 : decode cX2_worldsLeft 9 = .ok (.aload_n 0, 1) := by decide +kernel
theorem dX2_worldsLeft_10 : decode cX2_worldsLeft 10 = .ok (.getfield 12, 3) := by decide +kernel
theorem dX2_worldsLeft_13 : decode cX2_worldsLeft 13 = .ok (.getfield 87, 3) := by decide +kernel
end
section
theorem dX2_worldsLeft_16 : decode cX2_worldsLeft 16 = .ok (.iload_n 1, 1) := by decide +kernel
theorem dX2_worldsLeft_17 : decode cX2_worldsLeft 17 = .ok (.invokevirtual 213, 3) := by decide +kernel
theorem dX2_worldsLeft_20 : decode cX2_worldsLeft 20 = .ok (.invokestatic 125, 3) := by decide +kernel
theorem dX2_worldsLeft_23 : decode cX2_worldsLeft 23 = .ok (.istore 4, 2) := by decide +kernel
theorem dX2_worldsLeft_25 : decode cX2_worldsLeft 25 = .ok (.iload 4, 2) := by decide +kernel
theorem dX2_worldsLeft_27 : decode cX2_worldsLeft 27 = .ok (.iload_n 3, 1) := by decide +kernel
theorem dX2_worldsLeft_28 : decode cX2_worldsLeft 28 = .ok (.if_icmp .lt 19, 3) := by decide +kernel
theorem dX2_worldsLeft_31 : decode cX2_worldsLeft 31 = .ok (.aload_n 0, 1) := by decide +kernel
theorem dX2_worldsLeft_32 : decode cX2_worldsLeft 32 = .ok (.iload_n 1, 1) := by decide +kernel
theorem dX2_worldsLeft_33 : decode cX2_worldsLeft 33 = .ok (.iload_n 3, 1) := by decide +kernel
theorem dX2_worldsLeft_34 : decode cX2_worldsLeft 34 = .ok (.invokevirtual 222, 3) := by decide +kernel
theorem dX2_worldsLeft_37 : decode cX2_worldsLeft 37 = .ok (.iload_n 2, 1) := by decide +kernel
theorem dX2_worldsLeft_38 : decode cX2_worldsLeft 38 = .ok (.if_icmp .ne 7, 3) := by decide +kernel
theorem dX2_worldsLeft_41 : decode cX2_worldsLeft 41 = .ok (.iconst 1, 1) := by decide +kernel
theorem dX2_worldsLeft_42 : decode cX2_worldsLeft 42 = .ok (.goto 4, 3) := by decide +kernel
theorem dX2_worldsLeft_45 : decode cX2_worldsLeft 45 = .ok (.iconst 0, 1) := by decide +kernel
theorem dX2_worldsLeft_46 : decode cX2_worldsLeft 46 = .ok (.ireturn, 1) := by decide +kernel
theorem dX2_worldsLeft_47 : decode cX2_worldsLeft 47 = .ok (.iconst 1, 1) := by decide +kernel
theorem dX2_worldsLeft_48 : decode cX2_worldsLeft 48 = .ok (.istore 5, 2) := by decide +kernel
theorem dX2_worldsLeft_50 : decode cX2_worldsLeft 50 = .ok (.iload 4, 2) := by decide +kernel
theorem dX2_worldsLeft_52 : decode cX2_worldsLeft 52 = .ok (.iconst 1, 1) := by decide +kernel
theorem dX2_worldsLeft_53 : decode cX2_worldsLeft 53 = .ok (.iadd, 1) := by decide +kernel
theorem dX2_worldsLeft_54 : decode cX2_worldsLeft 54 = .ok (.istore 6, 2) := by decide +kernel
theorem dX2_worldsLeft_56 : decode cX2_worldsLeft 56 = .ok (.iload 6, 2) := by decide +kernel
theorem dX2_worldsLeft_58 : decode cX2_worldsLeft 58 = .ok (.iload_n 3, 1) := by decide +kernel
theorem dX2_worldsLeft_59 : decode cX2_worldsLeft 59 = .ok (.if_icmp .ge 16, 3) := by decide +kernel
theorem dX2_worldsLeft_62 : decode cX2_worldsLeft 62 = .ok (.iload 5, 2) := by decide +kernel
theorem dX2_worldsLeft_64 : decode cX2_worldsLeft 64 = .ok (.bipush 23, 2) := by decide +kernel
theorem dX2_worldsLeft_66 : decode cX2_worldsLeft 66 = .ok (.imul, 1) := by decide +kernel
theorem dX2_worldsLeft_67 : decode cX2_worldsLeft 67 = .ok (.istore 5, 2) := by decide +kernel
theorem dX2_worldsLeft_69 : decode cX2_worldsLeft 69 = .ok (.iinc 6 1, 3) := by decide +kernel
theorem dX2_worldsLeft_72 : decode cX2_worldsLeft 72 = .ok (.goto (-16), 3) := by decide +kernel
theorem dX2_worldsLeft_75 : decode cX2_worldsLeft 75 = .ok (.iload 5, 2) := by decide +kernel
theorem dX2_worldsLeft_77 : decode cX2_worldsLeft 77 = .ok (.ireturn, 1) := by decide +kernel
theorem dX3_init_0 : decode cX3_init 0 = .ok (.aload_n 0, 1) := by decide +kernel
theorem dX3_init_1 : decode cX3_init 1 = .ok (.invokespecial 3, 3) := by decide +kernel
theorem dX3_init_4 : decode cX3_init 4 = .ok (.aload_n 0, 1) := by decide +kernel
theorem dX3_init_5 : decode cX3_init 5 = .ok (.bipush 10, 2) := by decide +kernel
theorem dX3_init_7 : decode cX3_init 7 = .ok (.newarray .int, 2) := by decide +kernel
theorem dX3_init_9 : decode cX3_init 9 = .ok (.putfield 9, 3) := by decide +kernel
theorem dX3_init_12 : decode cX3_init 12 = .ok (.aload_n 0, 1) := by decide +kernel
theorem dX3_init_13 : decode cX3_init 13 = .ok (.iconst 0, 1) := by decide +kernel
theorem dX3_init_14 : decode cX3_init 14 = .ok (.putfield 15, 3) := by decide +kernel
theorem dX3_init_17 : decode cX3_init 17 = .ok (.return_, 1) := by decide +kernel
theorem dX3_append_0 : decode cX3_append 0 = .ok (.aload_n 0, 1) := by decide +kernel
theorem dX3_append_1 : decode cX3_append 1 = .ok (.getfield 15, 3) := by decide +kernel
theorem dX3_append_4 : decode cX3_append 4 = .ok (.ifCond .lt 12, 3) := by decide +kernel
theorem dX3_append_7 : decode cX3_append 7 = .ok (.aload_n 0, 1) := by decide +kernel
theorem dX3_append_8 : decode cX3_append 8 = .ok (.getfield 15, 3) := by decide +kernel
theorem dX3_append_11 : decode cX3_append 11 = .ok (.bipush 10, 2) := by decide +kernel
theorem dX3_append_13 : decode cX3_append 13 = .ok (.if_icmp .lt 5, 3) := by decide +kernel
theorem dX3_append_16 : decode cX3_append 16 = .ok (.iconst 0, 1) := by decide +kernel
theorem dX3_append_17 : decode cX3_append 17 = .ok (.ireturn, 1) := by decide +kernel
theorem dX3_append_18 : decode cX3_append 18 = .ok (.aload_n 0, 1) := by decide +kernel
theorem dX3_append_19 : decode cX3_append 19 = .ok (.getfield 9, 3) := by decide +kernel
theorem dX3_append_22 : decode cX3_append 22 = .ok (.aload_n 0, 1) := by decide +kernel
theorem dX3_append_23 : decode cX3_append 23 = .ok (.getfield 15, 3) := by decide +kernel
theorem dX3_append_26 : decode cX3_append 26 = .ok (.iload_n 1, 1) := by decide +kernel
theorem dX3_append_27 : decode cX3_append 27 = .ok (.iastore, 1) := by decide +kernel
theorem dX3_append_28 : decode cX3_append 28 = .ok (.aload_n 0, 1) := by decide +kernel
theorem dX3_append_29 : decode cX3_append 29 = .ok (.dup, 1) := by decide +kernel
theorem dX3_append_30 : decode cX3_append 30 = .ok (.getfield 15, 3) := by decide +kernel
theorem dX3_append_33 : decode cX3_append 33 = .ok (.iconst 1, 1) := by decide +kernel
theorem dX3_append_34 : decode cX3_append 34 = .ok (.iadd, 1) := by decide +kernel
theorem dX3_append_35 : decode cX3_append 35 = .ok (.putfield 15, 3) := by decide +kernel
theorem dX3_append_38 : decode cX3_append 38 = .ok (.iconst 1, 1) := by decide +kernel
theorem dX3_append_39 : decode cX3_append 39 = .ok (.ireturn, 1) := by decide +kernel
theorem dX3_signAt_0 : decode cX3_signAt 0 = .ok (.iload_n 1, 1) := by decide +kernel
theorem dX3_signAt_1 : decode cX3_signAt 1 = .ok (.ifCond .lt 26, 3) := by decide +kernel
theorem dX3_signAt_4 : decode cX3_signAt 4 = .ok (.iload_n 1, 1) := by decide +kernel
theorem dX3_signAt_5 : decode cX3_signAt 5 = .ok (.aload_n 0, 1) := by decide +kernel
theorem dX3_signAt_6 : decode cX3_signAt 6 = .ok (.getfield 15, 3) := by decide +kernel
theorem dX3_signAt_9 : decode cX3_signAt 9 = .ok (.if_icmp .ge 18, 3) := by decide +kernel
theorem dX3_signAt_12 : decode cX3_signAt 12 = .ok (.iload_n 1, 1) := by decide +kernel
theorem dX3_signAt_13 : decode cX3_signAt 13 = .ok (.bipush 10, 2) := by decide +kernel
theorem dX3_signAt_15 : decode cX3_signAt 15 = .ok (.if_icmp .ge 12, 3) := by decide +kernel
theorem dX3_signAt_18 : decode cX3_signAt 18 = .ok (.aload_n 0, 1) := by decide +kernel
theorem dX3_signAt_19 : decode cX3_signAt 19 = .ok (.getfield 9, 3) := by decide +kernel
theorem dX3_signAt_22 : decode cX3_signAt 22 = .ok (.iload_n 1, 1) := by decide +kernel
theorem dX3_signAt_23 : decode cX3_signAt 23 = .ok (.iaload, 1) := by decide +kernel
theorem dX3_signAt_24 : decode cX3_signAt 24 = .ok (.goto 4, 3) := by decide +kernel
theorem dX3_signAt_27 : decode cX3_signAt 27 = .ok (.iconst 0, 1) := by decide +kernel
theorem dX3_signAt_28 : decode cX3_signAt 28 = .ok (.ireturn, 1) := by decide +kernel
set_option maxRecDepth 20000 in
theorem ggX3_letter_X3_signAt : GoodIn wsX3_letter wsX3_signAt := goodIn_r _ [5, 6, 7, 8, 9] (by decide +kernel) (by decide +kernel)
set_option maxRecDepth 20000 in
theorem gX3_letter_X3_signAt : GoodIn wsX3_letter (wsV RX3 19 RX3 yX3_signAt wsX3_signAt) := goodIn_app (goodIn_of _ (by decide +kernel)) ggX3_letter_X3_signAt
theorem dX3_letter_0 : decode cX3_letter 0 = .ok (.aload_n 0, 1) := by decide +kernel
theorem dX3_letter_1 : decode cX3_letter 1 = .ok (.iconst 0, 1) := by decide +kernel
theorem dX3_letter_2 : decode cX3_letter 2 = .ok (.invokevirtual 19, 3) := by decide +kernel
theorem dX3_letter_5 : decode cX3_letter 5 = .ok (.ireturn, 1) := by decide +kernel
set_option maxRecDepth 20000 in
theorem ggX3_figureAt_X3_signAt : GoodIn wsX3_figureAt wsX3_signAt := goodIn_r _ [5, 6, 7, 8, 9] (by decide +kernel) (by decide +kernel)
set_option maxRecDepth 20000 in
theorem gX3_figureAt_X3_signAt : GoodIn wsX3_figureAt (wsV RX3 19 RX3 yX3_signAt wsX3_signAt) := goodIn_app (goodIn_of _ (by decide +kernel)) ggX3_figureAt_X3_signAt
theorem dX3_figureAt_0 : decode cX3_figureAt 0 = .ok (.aload_n 0, 1) := by decide +kernel
theorem dX3_figureAt_1 : decode cX3_figureAt 1 = .ok (.iload_n 1, 1) := by decide +kernel
theorem dX3_figureAt_2 : decode cX3_figureAt 2 = .ok (.invokevirtual 19, 3) := by decide +kernel
theorem dX3_figureAt_5 : decode cX3_figureAt 5 = .ok (.bipush 48, 2) := by decide +kernel
theorem dX3_figureAt_7 : decode cX3_figureAt 7 = .ok (.isub, 1) := by decide +kernel
theorem dX3_figureAt_8 : decode cX3_figureAt 8 = .ok (.ireturn, 1) := by decide +kernel
set_option maxRecDepth 20000 in
theorem ggX3_faultPlace_X3_canStand : GoodIn wsX3_faultPlace wsX3_canStand := goodIn_r _ [6, 7, 8, 9, 5, 10, 11, 12, 13, 14, 1, 15, 16, 17, 18, 19, 20, 21, 22, 23, 24, 25, 26, 27, 28, 29, 34, 35] (by decide +kernel) (by decide +kernel)
set_option maxRecDepth 20000 in
theorem gX3_faultPlace_X3_canStand : GoodIn wsX3_faultPlace (wsV RX3 23 RX3 yX3_canStand wsX3_canStand) := goodIn_app (goodIn_of _ (by decide +kernel)) ggX3_faultPlace_X3_canStand
set_option maxRecDepth 20000 in
theorem ggX3_faultPlace_X3_fewestSigns : GoodIn wsX3_faultPlace wsX3_fewestSigns := goodIn_r _ [33, 7, 8, 9, 5, 10, 11, 12, 13, 14, 1, 15, 34, 35] (by decide +kernel) (by decide +kernel)
set_option maxRecDepth 20000 in
theorem gX3_faultPlace_X3_fewestSigns : GoodIn wsX3_faultPlace (wsV RX3 27 RX3 yX3_fewestSigns wsX3_fewestSigns) := goodIn_app (goodIn_of _ (by decide +kernel)) ggX3_faultPlace_X3_fewestSigns
theorem dX3_faultPlace_0 : decode cX3_faultPlace 0 = .ok (.iconst 0, 1) := by decide +kernel
theorem dX3_faultPlace_1 : decode cX3_faultPlace 1 = .ok (.istore_n 1, 1) := by decide +kernel
theorem dX3_faultPlace_2 : decode cX3_faultPlace 2 = .ok (.iload_n 1, 1) := by decide +kernel
theorem dX3_faultPlace_3 : decode cX3_faultPlace 3 = .ok (.aload_n 0, 1) := by decide +kernel
theorem dX3_faultPlace_4 : decode cX3_faultPlace 4 = .ok (.getfield 15, 3) := by decide +kernel
theorem dX3_faultPlace_7 : decode cX3_faultPlace 7 = .ok (.if_icmp .ge 19, 3) := by decide +kernel
theorem dX3_faultPlace_10 : decode cX3_faultPlace 10 = .ok (.aload_n 0, 1) := by decide +kernel
theorem dX3_faultPlace_11 : decode cX3_faultPlace 11 = .ok (.iload_n 1, 1) := by decide +kernel
theorem dX3_faultPlace_12 : decode cX3_faultPlace 12 = .ok (.invokevirtual 23, 3) := by decide +kernel
theorem dX3_faultPlace_15 : decode cX3_faultPlace 15 = .ok (.ifCond .ne 5, 3) := by decide +kernel
theorem dX3_faultPlace_18 : decode cX3_faultPlace 18 = .ok (.iload_n 1, 1) := by decide +kernel
theorem dX3_faultPlace_19 : decode cX3_faultPlace 19 = .ok (.ireturn, 1) := by decide +kernel
theorem dX3_faultPlace_20 : decode cX3_faultPlace 20 = .ok (.iinc 1 1, 3) := by decide +kernel
theorem dX3_faultPlace_23 : decode cX3_faultPlace 23 = .ok (.goto (-21), 3) := by decide +kernel
theorem dX3_faultPlace_26 : decode cX3_faultPlace 26 = .ok (.aload_n 0, 1) := by decide +kernel
theorem dX3_faultPlace_27 : decode cX3_faultPlace 27 = .ok (.getfield 15, 3) := by decide +kernel
theorem dX3_faultPlace_30 : decode cX3_faultPlace 30 = .ok (.aload_n 0, 1) := by decide +kernel
theorem dX3_faultPlace_31 : decode cX3_faultPlace 31 = .ok (.invokevirtual 27, 3) := by decide +kernel
theorem dX3_faultPlace_34 : decode cX3_faultPlace 34 = .ok (.if_icmp .ge 10, 3) := by decide +kernel
theorem dX3_faultPlace_37 : decode cX3_faultPlace 37 = .ok (.aload_n 0, 1) := by decide +kernel
theorem dX3_faultPlace_38 : decode cX3_faultPlace 38 = .ok (.getfield 15, 3) := by decide +kernel
theorem dX3_faultPlace_41 : decode cX3_faultPlace 41 = .ok (.goto 5, 3) := by decide +kernel
theorem dX3_faultPlace_44 : decode cX3_faultPlace 44 = .ok (.bipush (-6), 2) := by decide +kernel
theorem dX3_faultPlace_46 : decode cX3_faultPlace 46 = .ok (.ireturn, 1) := by decide +kernel
set_option maxRecDepth 20000 in
theorem ggX3_members_X3_firstOfSet : GoodIn wsX3_members wsX3_firstOfSet := goodIn_r _ [6, 7, 8, 9, 5, 10, 11, 12, 13, 14, 1, 15, 27, 28] (by decide +kernel) (by decide +kernel)
set_option maxRecDepth 20000 in
theorem gX3_members_X3_firstOfSet : GoodIn wsX3_members (wsV RX3 31 RX3 yX3_firstOfSet wsX3_firstOfSet) := goodIn_app (goodIn_of _ (by decide +kernel)) ggX3_members_X3_firstOfSet
set_option maxRecDepth 20000 in
theorem ggX3_members_X3_figureAt : GoodIn wsX3_members wsX3_figureAt := goodIn_r _ [19, 11, 12, 13, 5, 14, 1, 15, 27, 28] (by decide +kernel) (by decide +kernel)
set_option maxRecDepth 20000 in
theorem gX3_members_X3_figureAt : GoodIn wsX3_members (wsV RX3 34 RX3 yX3_figureAt wsX3_figureAt) := goodIn_app (goodIn_of _ (by decide +kernel)) ggX3_members_X3_figureAt
set_option maxRecDepth 20000 in
theorem ggX3_members_X6_isMember : GoodIn wsX3_members wsX6_isMember := goodIn_r _ [22] (by decide +kernel) (by decide +kernel)
set_option maxRecDepth 20000 in
theorem gX3_members_X6_isMember_n37 : GoodIn wsX3_members (wsX6_isMember) := ggX3_members_X6_isMember
set_option maxRecDepth 20000 in
theorem ggX3_members_X4_only : GoodIn wsX3_members wsX4_only := goodIn_r _ [26] (by decide +kernel) (by decide +kernel)
set_option maxRecDepth 20000 in
theorem gX3_members_X4_only : GoodIn wsX3_members (va_wsS RX3 40 yX4_only wsX4_only) := goodIn_app (goodIn_of _ (by decide +kernel)) ggX3_members_X4_only
theorem dX3_members_0 : decode cX3_members 0 = .ok (.iconst 0, 1) := by decide +kernel
theorem dX3_members_1 : decode cX3_members 1 = .ok (.istore_n 1, 1) := by decide +kernel
theorem dX3_members_2 : decode cX3_members 2 = .ok (.aload_n 0, 1) := by decide +kernel
theorem dX3_members_3 : decode cX3_members 3 = .ok (.invokevirtual 31, 3) := by decide +kernel
theorem dX3_members_6 : decode cX3_members 6 = .ok (.istore_n 2, 1) := by decide +kernel
theorem dX3_members_7 : decode cX3_members 7 = .ok (.iload_n 2, 1) := by decide +kernel
theorem dX3_members_8 : decode cX3_members 8 = .ok (.aload_n 0, 1) := by decide +kernel
theorem dX3_members_9 : decode cX3_members 9 = .ok (.getfield 15, 3) := by decide +kernel
theorem dX3_members_12 : decode cX3_members 12 = .ok (.if_icmp .ge 31, 3) := by decide +kernel
theorem dX3_members_15 : decode cX3_members 15 = .ok (.aload_n 0, 1) := by decide +kernel
theorem dX3_members_16 : decode cX3_members 16 = .ok (.iload_n 2, 1) := by decide +kernel
theorem dX3_members_17 : decode cX3_members 17 = .ok (.invokevirtual 34, 3) := by decide +kernel
theorem dX3_members_20 : decode cX3_members 20 = .ok (.invokestatic 37, 3) := by decide +kernel
theorem dX3_members_23 : decode cX3_members 23 = .ok (.ifCond .eq 14, 3) := by decide +kernel
theorem dX3_members_26 : decode cX3_members 26 = .ok (.iload_n 1, 1) := by decide +kernel
theorem dX3_members_27 : decode cX3_members 27 = .ok (.aload_n 0, 1) := by decide +kernel
theorem dX3_members_28 : decode cX3_members 28 = .ok (.iload_n 2, 1) := by decide +kernel
theorem dX3_members_29 : decode cX3_members 29 = .ok (.invokevirtual 34, 3) := by decide +kernel
theorem dX3_members_32 : decode cX3_members 32 = .ok (.invokestatic 40, 3) := by decide +kernel
theorem dX3_members_35 : decode cX3_members 35 = .ok (.ior, 1) := by decide +kernel
theorem dX3_members_36 : decode cX3_members 36 = .ok (.istore_n 1, 1) := by decide +kernel
theorem dX3_members_37 : decode cX3_members 37 = .ok (.iinc 2 1, 3) := by decide +kernel
theorem dX3_members_40 : decode cX3_members 40 = .ok (.goto (-33), 3) := by decide +kernel
theorem dX3_members_43 : decode cX3_members 43 = .ok (.iload_n 1, 1) := by decide +kernel
theorem dX3_members_44 : decode cX3_members 44 = .ok (.ireturn, 1) := by decide +kernel
set_option maxRecDepth 20000 in
theorem ggX3_canStand_X3_letter : GoodIn wsX3_canStand wsX3_letter := goodIn_r _ [5, 6, 7, 8, 4, 9, 10, 11, 26, 27] (by decide +kernel) (by decide +kernel)
set_option maxRecDepth 20000 in
theorem gX3_canStand_X3_letter : GoodIn wsX3_canStand (wsV RX3 45 RX3 yX3_letter wsX3_letter) := goodIn_app (goodIn_of _ (by decide +kernel)) ggX3_canStand_X3_letter
set_option maxRecDepth 20000 in
theorem ggX3_canStand_X3_isLetter : GoodIn wsX3_canStand wsX3_isLetter := goodIn_r _ [14] (by decide +kernel) (by decide +kernel)
set_option maxRecDepth 20000 in
theorem gX3_canStand_X3_isLetter : GoodIn wsX3_canStand (va_wsS RX3 48 yX3_isLetter wsX3_isLetter) := goodIn_app (goodIn_of _ (by decide +kernel)) ggX3_canStand_X3_isLetter
set_option maxRecDepth 20000 in
theorem ggX3_canStand_X3_figureAt : GoodIn wsX3_canStand wsX3_figureAt := goodIn_r _ [18, 6, 7, 8, 4, 9, 10, 11, 26, 27] (by decide +kernel) (by decide +kernel)
set_option maxRecDepth 20000 in
theorem gX3_canStand_X3_figureAt : GoodIn wsX3_canStand (wsV RX3 34 RX3 yX3_figureAt wsX3_figureAt) := goodIn_app (goodIn_of _ (by decide +kernel)) ggX3_canStand_X3_figureAt
set_option maxRecDepth 20000 in
theorem ggX3_canStand_X3_firstOfSet : GoodIn wsX3_canStand wsX3_firstOfSet := goodIn_r _ [22, 1, 2, 3, 4, 5, 6, 7, 8, 9, 10, 11, 26, 27] (by decide +kernel) (by decide +kernel)
set_option maxRecDepth 20000 in
theorem gX3_canStand_X3_firstOfSet : GoodIn wsX3_canStand (wsV RX3 31 RX3 yX3_firstOfSet wsX3_firstOfSet) := goodIn_app (goodIn_of _ (by decide +kernel)) ggX3_canStand_X3_firstOfSet
set_option maxRecDepth 20000 in
theorem ggX3_canStand_X6_isMember : GoodIn wsX3_canStand wsX6_isMember := goodIn_r _ [25] (by decide +kernel) (by decide +kernel)
set_option maxRecDepth 20000 in
theorem gX3_canStand_X6_isMember_n37 : GoodIn wsX3_canStand (wsX6_isMember) := ggX3_canStand_X6_isMember
theorem dX3_canStand_0 : decode cX3_canStand 0 = .ok (.iload_n 1, 1) := by decide +kernel
theorem dX3_canStand_1 : decode cX3_canStand 1 = .ok (.ifCond .ne 11, 3) := by decide +kernel
theorem dX3_canStand_4 : decode cX3_canStand 4 = .ok (.aload_n 0, 1) := by decide +kernel
theorem dX3_canStand_5 : decode cX3_canStand 5 = .ok (.invokevirtual 45, 3) := by decide +kernel
theorem dX3_canStand_8 : decode cX3_canStand 8 = .ok (.invokestatic 48, 3) := by decide +kernel
theorem dX3_canStand_11 : decode cX3_canStand 11 = .ok (.ireturn, 1) := by decide +kernel
theorem dX3_canStand_12 : decode cX3_canStand 12 = .ok (.aload_n 0, 1) := by decide +kernel
theorem dX3_canStand_13 : decode cX3_canStand 13 = .ok (.iload_n 1, 1) := by decide +kernel
theorem dX3_canStand_14 : decode cX3_canStand 14 = .ok (.invokevirtual 34, 3) := by decide +kernel
theorem dX3_canStand_17 : decode cX3_canStand 17 = .ok (.istore_n 2, 1) := by decide +kernel
theorem dX3_canStand_18 : decode cX3_canStand 18 = .ok (.iload_n 1, 1) := by decide +kernel
theorem dX3_canStand_19 : decode cX3_canStand 19 = .ok (.aload_n 0, 1) := by decide +kernel
theorem dX3_canStand_20 : decode cX3_canStand 20 = .ok (.invokevirtual 31, 3) := by decide +kernel
theorem dX3_canStand_23 : decode cX3_canStand 23 = .ok (.if_icmp .lt 35, 3) := by decide +kernel
theorem dX3_canStand_26 : decode cX3_canStand 26 = .ok (.iload_n 2, 1) := by decide +kernel
theorem dX3_canStand_27 : decode cX3_canStand 27 = .ok (.invokestatic 37, 3) := by decide +kernel
theorem dX3_canStand_30 : decode cX3_canStand 30 = .ok (.ifCond .eq 26, 3) := by decide +kernel
theorem dX3_canStand_33 : decode cX3_canStand 33 = .ok (.iload_n 1, 1) := by decide +kernel
theorem dX3_canStand_34 : decode cX3_canStand 34 = .ok (.aload_n 0, 1) := by decide +kernel
theorem dX3_canStand_35 : decode cX3_canStand 35 = .ok (.invokevirtual 31, 3) := by decide +kernel
theorem dX3_canStand_38 : decode cX3_canStand 38 = .ok (.if_icmp .eq 14, 3) := by decide +kernel
theorem dX3_canStand_41 : decode cX3_canStand 41 = .ok (.iload_n 2, 1) := by decide +kernel
theorem dX3_canStand_42 : decode cX3_canStand 42 = .ok (.aload_n 0, 1) := by decide +kernel
theorem dX3_canStand_43 : decode cX3_canStand 43 = .ok (.iload_n 1, 1) := by decide +kernel
theorem dX3_canStand_44 : decode cX3_canStand 44 = .ok (.iconst 1, 1) := by decide +kernel
theorem dX3_canStand_45 : decode cX3_canStand 45 = .ok (.isub, 1) := by decide +kernel
theorem dX3_canStand_46 : decode cX3_canStand 46 = .ok (.invokevirtual 34, 3) := by decide +kernel
theorem dX3_canStand_49 : decode cX3_canStand 49 = .ok (.if_icmp .le 7, 3) := by decide +kernel
theorem dX3_canStand_52 : decode cX3_canStand 52 = .ok (.iconst 1, 1) := by decide +kernel
theorem dX3_canStand_53 : decode cX3_canStand 53 = .ok (.goto 4, 3) := by decide +kernel
theorem dX3_canStand_56 : decode cX3_canStand 56 = .ok (.iconst 0, 1) := by decide +kernel
theorem dX3_canStand_57 : decode cX3_canStand 57 = .ok (.ireturn, 1) := by decide +kernel
theorem dX3_canStand_58 : decode cX3_canStand 58 = .ok (.iload_n 1, 1) := by decide +kernel
theorem dX3_canStand_59 : decode cX3_canStand 59 = .ok (.iconst 1, 1) := by decide +kernel
theorem dX3_canStand_60 : decode cX3_canStand 60 = .ok (.if_icmp .gt 12, 3) := by decide +kernel
theorem dX3_canStand_63 : decode cX3_canStand 63 = .ok (.aload_n 0, 1) := by decide +kernel
theorem dX3_canStand_64 : decode cX3_canStand 64 = .ok (.invokevirtual 45, 3) := by decide +kernel
theorem dX3_canStand_67 : decode cX3_canStand 67 = .ok (.bipush 102, 2) := by decide +kernel
theorem dX3_canStand_69 : decode cX3_canStand 69 = .ok (.if_icmp .ne 5, 3) := by decide +kernel
theorem dX3_canStand_72 : decode cX3_canStand 72 = .ok (.iconst 0, 1) := by decide +kernel
theorem dX3_canStand_73 : decode cX3_canStand 73 = .ok (.ireturn, 1) := by decide +kernel
theorem dX3_canStand_74 : decode cX3_canStand 74 = .ok (.aload_n 0, 1) := by decide +kernel
theorem dX3_canStand_75 : decode cX3_canStand 75 = .ok (.invokevirtual 45, 3) := by decide +kernel
theorem dX3_canStand_78 : decode cX3_canStand 78 = .ok (.bipush 100, 2) := by decide +kernel
theorem dX3_canStand_80 : decode cX3_canStand 80 = .ok (.if_icmp .eq 12, 3) := by decide +kernel
theorem dX3_canStand_83 : decode cX3_canStand 83 = .ok (.aload_n 0, 1) := by decide +kernel
theorem dX3_canStand_84 : decode cX3_canStand 84 = .ok (.invokevirtual 45, 3) := by decide +kernel
theorem dX3_canStand_87 : decode cX3_canStand 87 = .ok (.bipush 116, 2) := by decide +kernel
theorem dX3_canStand_89 : decode cX3_canStand 89 = .ok (.if_icmp .ne 7, 3) := by decide +kernel
theorem dX3_canStand_92 : decode cX3_canStand 92 = .ok (.iconst 1, 1) := by decide +kernel
theorem dX3_canStand_93 : decode cX3_canStand 93 = .ok (.goto 4, 3) := by decide +kernel
theorem dX3_canStand_96 : decode cX3_canStand 96 = .ok (.iconst 0, 1) := by decide +kernel
theorem dX3_canStand_97 : decode cX3_canStand 97 = .ok (.istore_n 3, 1) := by decide +kernel
theorem dX3_canStand_98 : decode cX3_canStand 98 = .ok (.iload_n 3, 1) := by decide +kernel
theorem dX3_canStand_99 : decode cX3_canStand 99 = .ok (.ifCond .eq 21, 3) := by decide +kernel
theorem dX3_canStand_102 : decode cX3_canStand 102 = .ok (.iload_n 2, 1) := by decide +kernel
theorem dX3_canStand_103 : decode cX3_canStand 103 = .ok (.iconst 1, 1) := by decide +kernel
theorem dX3_canStand_104 : decode cX3_canStand 104 = .ok (.if_icmp .lt 12, 3) := by decide +kernel
theorem dX3_canStand_107 : decode cX3_canStand 107 = .ok (.iload_n 2, 1) := by decide +kernel
theorem dX3_canStand_108 : decode cX3_canStand 108 = .ok (.iconst 5, 1) := by decide +kernel
theorem dX3_canStand_109 : decode cX3_canStand 109 = .ok (.if_icmp .gt 7, 3) := by decide +kernel
theorem dX3_canStand_112 : decode cX3_canStand 112 = .ok (.iconst 1, 1) := by decide +kernel
theorem dX3_canStand_113 : decode cX3_canStand 113 = .ok (.goto 11, 3) := by decide +kernel
theorem dX3_canStand_116 : decode cX3_canStand 116 = .ok (.iconst 0, 1) := by decide +kernel
theorem dX3_canStand_117 : decode cX3_canStand 117 = .ok (.goto 7, 3) := by decide +kernel
theorem dX3_canStand_120 : decode cX3_canStand 120 = .ok (.iload_n 2, 1) := by decide +kernel
theorem dX3_canStand_121 : decode cX3_canStand 121 = .ok (.invokestatic 37, 3) := by decide +kernel
theorem dX3_canStand_124 : decode cX3_canStand 124 = .ok (.ireturn, 1) := by decide +kernel
set_option maxRecDepth 20000 in
theorem ggX3_firstOfSet_X3_letter : GoodIn wsX3_firstOfSet wsX3_letter := goodIn_r _ [5, 6, 7, 8, 4, 9, 10, 11, 12, 13] (by decide +kernel) (by decide +kernel)
set_option maxRecDepth 20000 in
theorem gX3_firstOfSet_X3_letter : GoodIn wsX3_firstOfSet (wsV RX3 45 RX3 yX3_letter wsX3_letter) := goodIn_app (goodIn_of _ (by decide +kernel)) ggX3_firstOfSet_X3_letter
theorem dX3_firstOfSet_0 : decode cX3_firstOfSet 0 = .ok (.aload_n 0, 1) := by decide +kernel
theorem dX3_firstOfSet_1 : decode cX3_firstOfSet 1 = .ok (.invokevirtual 45, 3) := by decide +kernel
theorem dX3_firstOfSet_4 : decode cX3_firstOfSet 4 = .ok (.lookupswitch 40 #[(98, 38), (111, 36), (116, 38)], 36) := by decide +kernel
theorem dX3_firstOfSet_40 : decode cX3_firstOfSet 40 = .ok (.iconst 1, 1) := by decide +kernel
theorem dX3_firstOfSet_41 : decode cX3_firstOfSet 41 = .ok (.ireturn, 1) := by decide +kernel
theorem dX3_firstOfSet_42 : decode cX3_firstOfSet 42 = .ok (.iconst 2, 1) := by decide +kernel
theorem dX3_firstOfSet_43 : decode cX3_firstOfSet 43 = .ok (.ireturn, 1) := by decide +kernel
theorem dX3_firstOfSet_44 : decode cX3_firstOfSet 44 = .ok (.bipush 10, 2) := by decide +kernel
theorem dX3_firstOfSet_46 : decode cX3_firstOfSet 46 = .ok (.ireturn, 1) := by decide +kernel
set_option maxRecDepth 20000 in
theorem ggX3_fewestSigns_X3_letter : GoodIn wsX3_fewestSigns wsX3_letter := goodIn_r _ [5, 6, 7, 8, 4, 9, 10, 11, 12, 13] (by decide +kernel) (by decide +kernel)
set_option maxRecDepth 20000 in
theorem gX3_fewestSigns_X3_letter : GoodIn wsX3_fewestSigns (wsV RX3 45 RX3 yX3_letter wsX3_letter) := goodIn_app (goodIn_of _ (by decide +kernel)) ggX3_fewestSigns_X3_letter
theorem dX3_fewestSigns_0 : decode cX3_fewestSigns 0 = .ok (.aload_n 0, 1) := by decide +kernel
theorem dX3_fewestSigns_1 : decode cX3_fewestSigns 1 = .ok (.invokevirtual 45, 3) := by decide +kernel
theorem dX3_fewestSigns_4 : decode cX3_fewestSigns 4 = .ok (.lookupswitch 40 #[(98, 38), (102, 36), (116, 38)], 36) := by decide +kernel
theorem dX3_fewestSigns_40 : decode cX3_fewestSigns 40 = .ok (.iconst 1, 1) := by decide +kernel
theorem dX3_fewestSigns_41 : decode cX3_fewestSigns 41 = .ok (.ireturn, 1) := by decide +kernel
theorem dX3_fewestSigns_42 : decode cX3_fewestSigns 42 = .ok (.iconst 3, 1) := by decide +kernel
theorem dX3_fewestSigns_43 : decode cX3_fewestSigns 43 = .ok (.ireturn, 1) := by decide +kernel
theorem dX3_fewestSigns_44 : decode cX3_fewestSigns 44 = .ok (.iconst 2, 1) := by decide +kernel
theorem dX3_fewestSigns_45 : decode cX3_fewestSigns 45 = .ok (.ireturn, 1) := by decide +kernel
theorem dX3_isLetter_0 : decode cX3_isLetter 0 = .ok (.iload_n 0, 1) := by decide +kernel
theorem dX3_isLetter_1 : decode cX3_isLetter 1 = .ok (.tableswitch 105 98 119 #[103, 105, 103, 105, 103, 105, 105, 105, 105, 105, 105, 105, 105, 103, 105, 105, 105, 103, 103, 105, 105, 103], 103) := by decide +kernel
theorem dX3_isLetter_104 : decode cX3_isLetter 104 = .ok (.iconst 1, 1) := by decide +kernel
theorem dX3_isLetter_105 : decode cX3_isLetter 105 = .ok (.ireturn, 1) := by decide +kernel
theorem dX3_isLetter_106 : decode cX3_isLetter 106 = .ok (.iconst 0, 1) := by decide +kernel
theorem dX3_isLetter_107 : decode cX3_isLetter 107 = .ok (.ireturn, 1) := by decide +kernel
theorem dX4_only_0 : decode cX4_only 0 = .ok (.iconst 1, 1) := by decide +kernel
theorem dX4_only_1 : decode cX4_only 1 = .ok (.iload_n 0, 1) := by decide +kernel
theorem dX4_only_2 : decode cX4_only 2 = .ok (.ishl, 1) := by decide +kernel
theorem dX4_only_3 : decode cX4_only 3 = .ok (.ireturn, 1) := by decide +kernel
theorem dX4_has_0 : decode cX4_has 0 = .ok (.iload_n 0, 1) := by decide +kernel
theorem dX4_has_1 : decode cX4_has 1 = .ok (.iload_n 1, 1) := by decide +kernel
theorem dX4_has_2 : decode cX4_has 2 = .ok (.ishr, 1) := by decide +kernel
theorem dX4_has_3 : decode cX4_has 3 = .ok (.iconst 1, 1) := by decide +kernel
theorem dX4_has_4 : decode cX4_has 4 = .ok (.iand, 1) := by decide +kernel
theorem dX4_has_5 : decode cX4_has 5 = .ok (.ifCond .eq 7, 3) := by decide +kernel
theorem dX4_has_8 : decode cX4_has 8 = .ok (.iconst 1, 1) := by decide +kernel
theorem dX4_has_9 : decode cX4_has 9 = .ok (.goto 4, 3) := by decide +kernel
theorem dX4_has_12 : decode cX4_has 12 = .ok (.iconst 0, 1) := by decide +kernel
theorem dX4_has_13 : decode cX4_has 13 = .ok (.ireturn, 1) := by decide +kernel
set_option maxRecDepth 20000 in
theorem ggX4_lowest_X4_has : GoodIn wsX4_lowest wsX4_has := goodIn_r _ [4] (by decide +kernel) (by decide +kernel)
set_option maxRecDepth 20000 in
theorem gX4_lowest_X4_has : GoodIn wsX4_lowest (va_wsS RX4 9 yX4_has wsX4_has) := goodIn_app (goodIn_of _ (by decide +kernel)) ggX4_lowest_X4_has
set_option maxRecDepth 20000 in
theorem ggX4_lowest_X4_only : GoodIn wsX4_lowest wsX4_only := goodIn_r _ [7] (by decide +kernel) (by decide +kernel)
set_option maxRecDepth 20000 in
theorem gX4_lowest_X4_only : GoodIn wsX4_lowest (va_wsS RX4 15 yX4_only wsX4_only) := goodIn_app (goodIn_of _ (by decide +kernel)) ggX4_lowest_X4_only
theorem dX4_lowest_0 : decode cX4_lowest 0 = .ok (.iconst 0, 1) := by decide +kernel
theorem dX4_lowest_1 : decode cX4_lowest 1 = .ok (.istore_n 2, 1) := by decide +kernel
theorem dX4_lowest_2 : decode cX4_lowest 2 = .ok (.iload_n 1, 1) := by decide +kernel
theorem dX4_lowest_3 : decode cX4_lowest 3 = .ok (.istore_n 3, 1) := by decide +kernel
theorem dX4_lowest_4 : decode cX4_lowest 4 = .ok (.iconst 1, 1) := by decide +kernel
theorem dX4_lowest_5 : decode cX4_lowest 5 = .ok (.istore 4, 2) := by decide +kernel
theorem dX4_lowest_7 : decode cX4_lowest 7 = .ok (.iload 4, 2) := by decide +kernel
theorem dX4_lowest_9 : decode cX4_lowest 9 = .ok (.bipush 7, 2) := by decide +kernel
theorem dX4_lowest_11 : decode cX4_lowest 11 = .ok (.if_icmp .gt 33, 3) := by decide +kernel
theorem dX4_lowest_14 : decode cX4_lowest 14 = .ok (.iload_n 3, 1) := by decide +kernel
theorem dX4_lowest_15 : decode cX4_lowest 15 = .ok (.ifCond .le 29, 3) := by decide +kernel
theorem dX4_lowest_18 : decode cX4_lowest 18 = .ok (.iload_n 0, 1) := by decide +kernel
theorem dX4_lowest_19 : decode cX4_lowest 19 = .ok (.iload 4, 2) := by decide +kernel
theorem dX4_lowest_21 : decode cX4_lowest 21 = .ok (.invokestatic 9, 3) := by decide +kernel
theorem dX4_lowest_24 : decode cX4_lowest 24 = .ok (.ifCond .eq 14, 3) := by decide +kernel
theorem dX4_lowest_27 : decode cX4_lowest 27 = .ok (.iload_n 2, 1) := by decide +kernel
theorem dX4_lowest_28 : decode cX4_lowest 28 = .ok (.iload 4, 2) := by decide +kernel
theorem dX4_lowest_30 : decode cX4_lowest 30 = .ok (.invokestatic 15, 3) := by decide +kernel
theorem dX4_lowest_33 : decode cX4_lowest 33 = .ok (.ior, 1) := by decide +kernel
theorem dX4_lowest_34 : decode cX4_lowest 34 = .ok (.istore_n 2, 1) := by decide +kernel
theorem dX4_lowest_35 : decode cX4_lowest 35 = .ok (.iinc 3 (-1), 3) := by decide +kernel
theorem dX4_lowest_38 : decode cX4_lowest 38 = .ok (.iinc 4 1, 3) := by decide +kernel
theorem dX4_lowest_41 : decode cX4_lowest 41 = .ok (.goto (-34), 3) := by decide +kernel
theorem dX4_lowest_44 : decode cX4_lowest 44 = .ok (.iload_n 2, 1) := by decide +kernel
theorem dX4_lowest_45 : decode cX4_lowest 45 = .ok (.ireturn, 1) := by decide +kernel
theorem dX5_plus_0 : decode cX5_plus 0 = .ok (.iload_n 0, 1) := by decide +kernel
theorem dX5_plus_1 : decode cX5_plus 1 = .ok (.iload_n 1, 1) := by decide +kernel
theorem dX5_plus_2 : decode cX5_plus 2 = .ok (.iadd, 1) := by decide +kernel
theorem dX5_plus_3 : decode cX5_plus 3 = .ok (.bipush 23, 2) := by decide +kernel
theorem dX5_plus_5 : decode cX5_plus 5 = .ok (.irem, 1) := by decide +kernel
theorem dX5_plus_6 : decode cX5_plus 6 = .ok (.ireturn, 1) := by decide +kernel
theorem dX5_times_0 : decode cX5_times 0 = .ok (.iload_n 0, 1) := by decide +kernel
theorem dX5_times_1 : decode cX5_times 1 = .ok (.iload_n 1, 1) := by decide +kernel
theorem dX5_times_2 : decode cX5_times 2 = .ok (.imul, 1) := by decide +kernel
theorem dX5_times_3 : decode cX5_times 3 = .ok (.bipush 23, 2) := by decide +kernel
theorem dX5_times_5 : decode cX5_times 5 = .ok (.irem, 1) := by decide +kernel
theorem dX5_times_6 : decode cX5_times 6 = .ok (.ireturn, 1) := by decide +kernel
theorem dX5_less_0 : decode cX5_less 0 = .ok (.iload_n 0, 1) := by decide +kernel
theorem dX5_less_1 : decode cX5_less 1 = .ok (.bipush 23, 2) := by decide +kernel
theorem dX5_less_3 : decode cX5_less 3 = .ok (.iadd, 1) := by decide +kernel
theorem dX5_less_4 : decode cX5_less 4 = .ok (.iload_n 1, 1) := by decide +kernel
theorem dX5_less_5 : decode cX5_less 5 = .ok (.isub, 1) := by decide +kernel
theorem dX5_less_6 : decode cX5_less 6 = .ok (.bipush 23, 2) := by decide +kernel
theorem dX5_less_8 : decode cX5_less 8 = .ok (.irem, 1) := by decide +kernel
theorem dX5_less_9 : decode cX5_less 9 = .ok (.ireturn, 1) := by decide +kernel
theorem dX5_inverse_0 : decode cX5_inverse 0 = .ok (.iconst 1, 1) := by decide +kernel
theorem dX5_inverse_1 : decode cX5_inverse 1 = .ok (.istore_n 1, 1) := by decide +kernel
theorem dX5_inverse_2 : decode cX5_inverse 2 = .ok (.iconst 0, 1) := by decide +kernel
theorem dX5_inverse_3 : decode cX5_inverse 3 = .ok (.istore_n 2, 1) := by decide +kernel
theorem dX5_inverse_4 : decode cX5_inverse 4 = .ok (.iload_n 2, 1) := by decide +kernel
theorem dX5_inverse_5 : decode cX5_inverse 5 = .ok (.bipush 21, 2) := by decide +kernel
theorem dX5_inverse_7 : decode cX5_inverse 7 = .ok (.if_icmp .ge 16, 3) := by decide +kernel
theorem dX5_inverse_10 : decode cX5_inverse 10 = .ok (.iload_n 1, 1) := by decide +kernel
theorem dX5_inverse_11 : decode cX5_inverse 11 = .ok (.iload_n 0, 1) := by decide +kernel
theorem dX5_inverse_12 : decode cX5_inverse 12 = .ok (.imul, 1) := by decide +kernel
theorem dX5_inverse_13 : decode cX5_inverse 13 = .ok (.bipush 23, 2) := by decide +kernel
theorem dX5_inverse_15 : decode cX5_inverse 15 = .ok (.irem, 1) := by decide +kernel
theorem dX5_inverse_16 : decode cX5_inverse 16 = .ok (.istore_n 1, 1) := by decide +kernel
theorem dX5_inverse_17 : decode cX5_inverse 17 = .ok (.iinc 2 1, 3) := by decide +kernel
theorem dX5_inverse_20 : decode cX5_inverse 20 = .ok (.goto (-16), 3) := by decide +kernel
theorem dX5_inverse_23 : decode cX5_inverse 23 = .ok (.iload_n 1, 1) := by decide +kernel
theorem dX5_inverse_24 : decode cX5_inverse 24 = .ok (.ireturn, 1) := by decide +kernel
theorem dX5_joined_0 : decode cX5_joined 0 = .ok (.iload_n 0, 1) := by decide +kernel
theorem dX5_joined_1 : decode cX5_joined 1 = .ok (.iload_n 1, 1) := by decide +kernel
theorem dX5_joined_2 : decode cX5_joined 2 = .ok (.imul, 1) := by decide +kernel
theorem dX5_joined_3 : decode cX5_joined 3 = .ok (.bipush 47, 2) := by decide +kernel
theorem dX5_joined_5 : decode cX5_joined 5 = .ok (.irem, 1) := by decide +kernel
theorem dX5_joined_6 : decode cX5_joined 6 = .ok (.ireturn, 1) := by decide +kernel
theorem dX5_raised_0 : decode cX5_raised 0 = .ok (.iconst 1, 1) := by decide +kernel
theorem dX5_raised_1 : decode cX5_raised 1 = .ok (.istore_n 2, 1) := by decide +kernel
theorem dX5_raised_2 : decode cX5_raised 2 = .ok (.iconst 0, 1) := by decide +kernel
theorem dX5_raised_3 : decode cX5_raised 3 = .ok (.istore_n 3, 1) := by decide +kernel
theorem dX5_raised_4 : decode cX5_raised 4 = .ok (.iload_n 3, 1) := by decide +kernel
theorem dX5_raised_5 : decode cX5_raised 5 = .ok (.iload_n 1, 1) := by decide +kernel
theorem dX5_raised_6 : decode cX5_raised 6 = .ok (.if_icmp .ge 16, 3) := by decide +kernel
theorem dX5_raised_9 : decode cX5_raised 9 = .ok (.iload_n 2, 1) := by decide +kernel
theorem dX5_raised_10 : decode cX5_raised 10 = .ok (.iload_n 0, 1) := by decide +kernel
theorem dX5_raised_11 : decode cX5_raised 11 = .ok (.imul, 1) := by decide +kernel
theorem dX5_raised_12 : decode cX5_raised 12 = .ok (.bipush 47, 2) := by decide +kernel
theorem dX5_raised_14 : decode cX5_raised 14 = .ok (.irem, 1) := by decide +kernel
theorem dX5_raised_15 : decode cX5_raised 15 = .ok (.istore_n 2, 1) := by decide +kernel
theorem dX5_raised_16 : decode cX5_raised 16 = .ok (.iinc 3 1, 3) := by decide +kernel
theorem dX5_raised_19 : decode cX5_raised 19 = .ok (.goto (-15), 3) := by decide +kernel
theorem dX5_raised_22 : decode cX5_raised 22 = .ok (.iload_n 2, 1) := by decide +kernel
theorem dX5_raised_23 : decode cX5_raised 23 = .ok (.ireturn, 1) := by decide +kernel
set_option maxRecDepth 20000 in
theorem ggX5_sealOf_X5_raised : GoodIn wsX5_sealOf wsX5_raised := goodIn_r _ [4] (by decide +kernel) (by decide +kernel)
set_option maxRecDepth 20000 in
theorem gX5_sealOf_X5_raised : GoodIn wsX5_sealOf (va_wsS RX5 9 yX5_raised wsX5_raised) := goodIn_app (goodIn_of _ (by decide +kernel)) ggX5_sealOf_X5_raised
theorem dX5_sealOf_0 : decode cX5_sealOf 0 = .ok (.iconst 4, 1) := by decide +kernel
theorem dX5_sealOf_1 : decode cX5_sealOf 1 = .ok (.iload_n 0, 1) := by decide +kernel
theorem dX5_sealOf_2 : decode cX5_sealOf 2 = .ok (.invokestatic 9, 3) := by decide +kernel
theorem dX5_sealOf_5 : decode cX5_sealOf 5 = .ok (.ireturn, 1) := by decide +kernel
set_option maxRecDepth 20000 in
theorem ggX5_fitting_X5_raised : GoodIn wsX5_fitting wsX5_raised := goodIn_r _ [8] (by decide +kernel) (by decide +kernel)
set_option maxRecDepth 20000 in
theorem gX5_fitting_X5_raised : GoodIn wsX5_fitting (va_wsS RX5 9 yX5_raised wsX5_raised) := goodIn_app (goodIn_of _ (by decide +kernel)) ggX5_fitting_X5_raised
set_option maxRecDepth 20000 in
theorem ggX5_fitting_X5_joined : GoodIn wsX5_fitting wsX5_joined := goodIn_r _ [11] (by decide +kernel) (by decide +kernel)
set_option maxRecDepth 20000 in
theorem gX5_fitting_X5_joined : GoodIn wsX5_fitting (va_wsS RX5 20 yX5_joined wsX5_joined) := goodIn_app (goodIn_of _ (by decide +kernel)) ggX5_fitting_X5_joined
set_option maxRecDepth 20000 in
theorem ggX5_fitting_X5_sealOf : GoodIn wsX5_fitting wsX5_sealOf := goodIn_r _ [14, 5, 6, 7, 8] (by decide +kernel) (by decide +kernel)
set_option maxRecDepth 20000 in
theorem gX5_fitting_X5_sealOf : GoodIn wsX5_fitting (va_wsS RX5 23 yX5_sealOf wsX5_sealOf) := goodIn_app (goodIn_of _ (by decide +kernel)) ggX5_fitting_X5_sealOf
theorem dX5_fitting_0 : decode cX5_fitting 0 = .ok (.iconst 1, 1) := by decide +kernel
theorem dX5_fitting_1 : decode cX5_fitting 1 = .ok (.istore 4, 2) := by decide +kernel
theorem dX5_fitting_3 : decode cX5_fitting 3 = .ok (.iload_n 3, 1) := by decide +kernel
theorem dX5_fitting_4 : decode cX5_fitting 4 = .ok (.aload_n 2, 1) := by decide +kernel
theorem dX5_fitting_5 : decode cX5_fitting 5 = .ok (.arraylength, 1) := by decide +kernel
theorem dX5_fitting_6 : decode cX5_fitting 6 = .ok (.invokestatic 15, 3) := by decide +kernel
theorem dX5_fitting_9 : decode cX5_fitting 9 = .ok (.iconst 1, 1) := by decide +kernel
theorem dX5_fitting_10 : decode cX5_fitting 10 = .ok (.isub, 1) := by decide +kernel
theorem dX5_fitting_11 : decode cX5_fitting 11 = .ok (.istore 5, 2) := by decide +kernel
theorem dX5_fitting_13 : decode cX5_fitting 13 = .ok (.iload 5, 2) := by decide +kernel
theorem dX5_fitting_15 : decode cX5_fitting 15 = .ok (.ifCond .lt 24, 3) := by decide +kernel
theorem dX5_fitting_18 : decode cX5_fitting 18 = .ok (.iload 4, 2) := by decide +kernel
theorem dX5_fitting_20 : decode cX5_fitting 20 = .ok (.iload_n 1, 1) := by decide +kernel
theorem dX5_fitting_21 : decode cX5_fitting 21 = .ok (.invokestatic 9, 3) := by decide +kernel
theorem dX5_fitting_24 : decode cX5_fitting 24 = .ok (.aload_n 2, 1) := by decide +kernel
theorem dX5_fitting_25 : decode cX5_fitting 25 = .ok (.iload 5, 2) := by decide +kernel
theorem dX5_fitting_27 : decode cX5_fitting 27 = .ok (.iaload, 1) := by decide +kernel
theorem dX5_fitting_28 : decode cX5_fitting 28 = .ok (.invokestatic 20, 3) := by decide +kernel
theorem dX5_fitting_31 : decode cX5_fitting 31 = .ok (.istore 4, 2) := by decide +kernel
theorem dX5_fitting_33 : decode cX5_fitting 33 = .ok (.iinc 5 (-1), 3) := by decide +kernel
theorem dX5_fitting_36 : decode cX5_fitting 36 = .ok (.goto (-23), 3) := by decide +kernel
theorem dX5_fitting_39 : decode cX5_fitting 39 = .ok (.iload_n 0, 1) := by decide +kernel
theorem dX5_fitting_40 : decode cX5_fitting 40 = .ok (.invokestatic 23, 3) := by decide +kernel
theorem dX5_fitting_43 : decode cX5_fitting 43 = .ok (.iload 4, 2) := by decide +kernel
theorem dX5_fitting_45 : decode cX5_fitting 45 = .ok (.if_icmp .ne 7, 3) := by decide +kernel
theorem dX5_fitting_48 : decode cX5_fitting 48 = .ok (.iconst 1, 1) := by decide +kernel
theorem dX5_fitting_49 : decode cX5_fitting 49 = .ok (.goto 4, 3) := by decide +kernel
theorem dX5_fitting_52 : decode cX5_fitting 52 = .ok (.iconst 0, 1) := by decide +kernel
theorem dX5_fitting_53 : decode cX5_fitting 53 = .ok (.ireturn, 1) := by decide +kernel
set_option maxRecDepth 20000 in
theorem ggX5_weight_X4_has : GoodIn wsX5_weight wsX4_has := goodIn_r _ [4] (by decide +kernel) (by decide +kernel)
set_option maxRecDepth 20000 in
theorem gX5_weight_X4_has : GoodIn wsX5_weight (va_wsS RX5 27 yX4_has wsX4_has) := goodIn_app (goodIn_of _ (by decide +kernel)) ggX5_weight_X4_has
set_option maxRecDepth 20000 in
theorem ggX5_weight_X5_less : GoodIn wsX5_weight wsX5_less := goodIn_r _ [8] (by decide +kernel) (by decide +kernel)
set_option maxRecDepth 20000 in
theorem gX5_weight_X5_less : GoodIn wsX5_weight (va_wsS RX5 33 yX5_less wsX5_less) := goodIn_app (goodIn_of _ (by decide +kernel)) ggX5_weight_X5_less
set_option maxRecDepth 20000 in
theorem ggX5_weight_X5_times : GoodIn wsX5_weight wsX5_times := goodIn_r _ [11] (by decide +kernel) (by decide +kernel)
set_option maxRecDepth 20000 in
theorem gX5_weight_X5_times : GoodIn wsX5_weight (va_wsS RX5 36 yX5_times wsX5_times) := goodIn_app (goodIn_of _ (by decide +kernel)) ggX5_weight_X5_times
set_option maxRecDepth 20000 in
theorem ggX5_weight_X5_inverse : GoodIn wsX5_weight wsX5_inverse := goodIn_r _ [14] (by decide +kernel) (by decide +kernel)
set_option maxRecDepth 20000 in
theorem gX5_weight_X5_inverse : GoodIn wsX5_weight (va_wsS RX5 39 yX5_inverse wsX5_inverse) := goodIn_app (goodIn_of _ (by decide +kernel)) ggX5_weight_X5_inverse
theorem dX5_weight_0 : decode cX5_weight 0 = .ok (.iconst 1, 1) := by decide +kernel
theorem dX5_weight_1 : decode cX5_weight 1 = .ok (.istore_n 3, 1) := by decide +kernel
theorem dX5_weight_2 : decode cX5_weight 2 = .ok (.iconst 1, 1) := by decide +kernel
theorem dX5_weight_3 : decode cX5_weight 3 = .ok (.istore 4, 2) := by decide +kernel
theorem dX5_weight_5 : decode cX5_weight 5 = .ok (.iconst 1, 1) := by decide +kernel
theorem dX5_weight_6 : decode cX5_weight 6 = .ok (.istore 5, 2) := by decide +kernel
theorem dX5_weight_8 : decode cX5_weight 8 = .ok (.iload 5, 2) := by decide +kernel
theorem dX5_weight_10 : decode cX5_weight 10 = .ok (.bipush 7, 2) := by decide +kernel
theorem dX5_weight_12 : decode cX5_weight 12 = .ok (.if_icmp .gt 48, 3) := by decide +kernel
theorem dX5_weight_15 : decode cX5_weight 15 = .ok (.iload 5, 2) := by decide +kernel
theorem dX5_weight_17 : decode cX5_weight 17 = .ok (.iload_n 0, 1) := by decide +kernel
theorem dX5_weight_18 : decode cX5_weight 18 = .ok (.if_icmp .eq 36, 3) := by decide +kernel
theorem dX5_weight_21 : decode cX5_weight 21 = .ok (.iload_n 1, 1) := by decide +kernel
theorem dX5_weight_22 : decode cX5_weight 22 = .ok (.iload 5, 2) := by decide +kernel
theorem dX5_weight_24 : decode cX5_weight 24 = .ok (.invokestatic 27, 3) := by decide +kernel
theorem dX5_weight_27 : decode cX5_weight 27 = .ok (.ifCond .eq 27, 3) := by decide +kernel
theorem dX5_weight_30 : decode cX5_weight 30 = .ok (.iload_n 3, 1) := by decide +kernel
theorem dX5_weight_31 : decode cX5_weight 31 = .ok (.iload_n 2, 1) := by decide +kernel
theorem dX5_weight_32 : decode cX5_weight 32 = .ok (.iload 5, 2) := by decide +kernel
theorem dX5_weight_34 : decode cX5_weight 34 = .ok (.invokestatic 33, 3) := by decide +kernel
theorem dX5_weight_37 : decode cX5_weight 37 = .ok (.invokestatic 36, 3) := by decide +kernel
theorem dX5_weight_40 : decode cX5_weight 40 = .ok (.istore_n 3, 1) := by decide +kernel
theorem dX5_weight_41 : decode cX5_weight 41 = .ok (.iload 4, 2) := by decide +kernel
theorem dX5_weight_43 : decode cX5_weight 43 = .ok (.iload_n 0, 1) := by decide +kernel
theorem dX5_weight_44 : decode cX5_weight 44 = .ok (.iload 5, 2) := by decide +kernel
theorem dX5_weight_46 : decode cX5_weight 46 = .ok (.invokestatic 33, 3) := by decide +kernel
theorem dX5_weight_49 : decode cX5_weight 49 = .ok (.invokestatic 36, 3) := by decide +kernel
theorem dX5_weight_52 : decode cX5_weight 52 = .ok (.istore 4, 2) := by decide +kernel
theorem dX5_weight_54 : decode cX5_weight 54 = .ok (.iinc 5 1, 3) := by decide +kernel
theorem dX5_weight_57 : decode cX5_weight 57 = .ok (.goto (-49), 3) := by decide +kernel
theorem dX5_weight_60 : decode cX5_weight 60 = .ok (.iload_n 3, 1) := by decide +kernel
theorem dX5_weight_61 : decode cX5_weight 61 = .ok (.iload 4, 2) := by decide +kernel
theorem dX5_weight_63 : decode cX5_weight 63 = .ok (.invokestatic 39, 3) := by decide +kernel
theorem dX5_weight_66 : decode cX5_weight 66 = .ok (.invokestatic 36, 3) := by decide +kernel
theorem dX5_weight_69 : decode cX5_weight 69 = .ok (.ireturn, 1) := by decide +kernel
set_option maxRecDepth 20000 in
theorem ggX5_weighed_X4_has : GoodIn wsX5_weighed wsX4_has := goodIn_r _ [4] (by decide +kernel) (by decide +kernel)
set_option maxRecDepth 20000 in
theorem gX5_weighed_X4_has : GoodIn wsX5_weighed (va_wsS RX5 27 yX4_has wsX4_has) := goodIn_app (goodIn_of _ (by decide +kernel)) ggX5_weighed_X4_has
set_option maxRecDepth 20000 in
theorem ggX5_weighed_X5_weight : GoodIn wsX5_weighed wsX5_weight := goodIn_r _ [8, 1, 2, 3, 4, 9, 10, 7, 11, 12, 13, 14, 15, 16, 17] (by decide +kernel) (by decide +kernel)
set_option maxRecDepth 20000 in
theorem gX5_weighed_X5_weight : GoodIn wsX5_weighed (va_wsS RX5 42 yX5_weight wsX5_weight) := goodIn_app (goodIn_of _ (by decide +kernel)) ggX5_weighed_X5_weight
set_option maxRecDepth 20000 in
theorem ggX5_weighed_X5_times : GoodIn wsX5_weighed wsX5_times := goodIn_r _ [14] (by decide +kernel) (by decide +kernel)
set_option maxRecDepth 20000 in
theorem gX5_weighed_X5_times : GoodIn wsX5_weighed (va_wsS RX5 36 yX5_times wsX5_times) := goodIn_app (goodIn_of _ (by decide +kernel)) ggX5_weighed_X5_times
set_option maxRecDepth 20000 in
theorem ggX5_weighed_X5_plus : GoodIn wsX5_weighed wsX5_plus := goodIn_r _ [20] (by decide +kernel) (by decide +kernel)
set_option maxRecDepth 20000 in
theorem gX5_weighed_X5_plus : GoodIn wsX5_weighed (va_wsS RX5 46 yX5_plus wsX5_plus) := goodIn_app (goodIn_of _ (by decide +kernel)) ggX5_weighed_X5_plus
theorem dX5_weighed_0 : decode cX5_weighed 0 = .ok (.iconst 0, 1) := by decide +kernel
theorem dX5_weighed_1 : decode cX5_weighed 1 = .ok (.istore_n 3, 1) := by decide +kernel
theorem dX5_weighed_2 : decode cX5_weighed 2 = .ok (.iconst 1, 1) := by decide +kernel
theorem dX5_weighed_3 : decode cX5_weighed 3 = .ok (.istore 4, 2) := by decide +kernel
theorem dX5_weighed_5 : decode cX5_weighed 5 = .ok (.iload 4, 2) := by decide +kernel
theorem dX5_weighed_7 : decode cX5_weighed 7 = .ok (.bipush 7, 2) := by decide +kernel
theorem dX5_weighed_9 : decode cX5_weighed 9 = .ok (.if_icmp .gt 44, 3) := by decide +kernel
theorem dX5_weighed_12 : decode cX5_weighed 12 = .ok (.iload 4, 2) := by decide +kernel
theorem dX5_weighed_14 : decode cX5_weighed 14 = .ok (.aload_n 0, 1) := by decide +kernel
theorem dX5_weighed_15 : decode cX5_weighed 15 = .ok (.arraylength, 1) := by decide +kernel
theorem dX5_weighed_16 : decode cX5_weighed 16 = .ok (.if_icmp .ge 37, 3) := by decide +kernel
theorem dX5_weighed_19 : decode cX5_weighed 19 = .ok (.iload_n 1, 1) := by decide +kernel
theorem dX5_weighed_20 : decode cX5_weighed 20 = .ok (.iload 4, 2) := by decide +kernel
theorem dX5_weighed_22 : decode cX5_weighed 22 = .ok (.invokestatic 27, 3) := by decide +kernel
theorem dX5_weighed_25 : decode cX5_weighed 25 = .ok (.ifCond .eq 22, 3) := by decide +kernel
theorem dX5_weighed_28 : decode cX5_weighed 28 = .ok (.iload_n 3, 1) := by decide +kernel
theorem dX5_weighed_29 : decode cX5_weighed 29 = .ok (.aload_n 0, 1) := by decide +kernel
theorem dX5_weighed_30 : decode cX5_weighed 30 = .ok (.iload 4, 2) := by decide +kernel
theorem dX5_weighed_32 : decode cX5_weighed 32 = .ok (.iaload, 1) := by decide +kernel
theorem dX5_weighed_33 : decode cX5_weighed 33 = .ok (.iload 4, 2) := by decide +kernel
theorem dX5_weighed_35 : decode cX5_weighed 35 = .ok (.iload_n 1, 1) := by decide +kernel
theorem dX5_weighed_36 : decode cX5_weighed 36 = .ok (.iload_n 2, 1) := by decide +kernel
theorem dX5_weighed_37 : decode cX5_weighed 37 = .ok (.invokestatic 42, 3) := by decide +kernel
theorem dX5_weighed_40 : decode cX5_weighed 40 = .ok (.invokestatic 36, 3) := by decide +kernel
theorem dX5_weighed_43 : decode cX5_weighed 43 = .ok (.invokestatic 46, 3) := by decide +kernel
theorem dX5_weighed_46 : decode cX5_weighed 46 = .ok (.istore_n 3, 1) := by decide +kernel
theorem dX5_weighed_47 : decode cX5_weighed 47 = .ok (.iinc 4 1, 3) := by decide +kernel
theorem dX5_weighed_50 : decode cX5_weighed 50 = .ok (.goto (-45), 3) := by decide +kernel
theorem dX5_weighed_53 : decode cX5_weighed 53 = .ok (.iload_n 3, 1) := by decide +kernel
theorem dX5_weighed_54 : decode cX5_weighed 54 = .ok (.ireturn, 1) := by decide +kernel
set_option maxRecDepth 20000 in
theorem ggX6_init_X3_init : GoodIn wsX6_init wsX3_init := goodIn_r _ [17, 18, 2, 3, 19, 20, 21, 62, 63] (by decide +kernel) (by decide +kernel)
set_option maxRecDepth 20000 in
theorem gX6_init_X3_init : GoodIn wsX6_init (wsX3_init) := ggX6_init_X3_init
set_option maxRecDepth 20000 in
theorem ggX6_init_X2_init : GoodIn wsX6_init wsX2_init := goodIn_r _ [24, 25, 2, 3, 26, 27, 28, 29, 19, 30, 31, 32, 33, 34, 35, 36, 37, 38, 39, 40, 41, 42, 43, 44, 45, 46, 47, 48, 49, 50, 51, 52, 53, 54, 55, 56, 57, 58, 59, 60, 61, 74, 75, 76, 77, 78, 79, 80, 81, 82, 83, 84, 85, 68, 69, 70, 71, 72, 73, 86, 87, 88, 89] (by decide +kernel) (by decide +kernel)
set_option maxRecDepth 20000 in
theorem gX6_init_X2_init : GoodIn wsX6_init (wsX2_init) := ggX6_init_X2_init
theorem dX6_init_0 : decode cX6_init 0 = .ok (.aload_n 0, 1) := by decide +kernel
theorem dX6_init_1 : decode cX6_init 1 = .ok (.invokespecial 1, 3) := by decide +kernel
theorem dX6_init_4 : decode cX6_init 4 = .ok (.aload_n 0, 1) := by decide +kernel
theorem dX6_init_5 : decode cX6_init 5 = .ok (.new 7, 3) := by decide +kernel
theorem dX6_init_8 : decode cX6_init 8 = .ok (.dup, 1) := by decide +kernel
theorem dX6_init_9 : decode cX6_init 9 = .ok (.invokespecial 9, 3) := by decide +kernel
theorem dX6_init_12 : decode cX6_init 12 = .ok (.putfield 10, 3) := by decide +kernel
theorem dX6_init_15 : decode cX6_init 15 = .ok (.aload_n 0, 1) := by decide +kernel
theorem dX6_init_16 : decode cX6_init 16 = .ok (.new 16, 3) := by decide +kernel
theorem dX6_init_19 : decode cX6_init 19 = .ok (.dup, 1) := by decide +kernel
theorem dX6_init_20 : decode cX6_init 20 = .ok (.invokespecial 18, 3) := by decide +kernel
theorem dX6_init_23 : decode cX6_init 23 = .ok (.putfield 19, 3) := by decide +kernel
theorem dX6_init_26 : decode cX6_init 26 = .ok (.aload_n 0, 1) := by decide +kernel
theorem dX6_init_27 : decode cX6_init 27 = .ok (.aload_n 0, 1) := by decide +kernel
theorem dX6_init_28 : decode cX6_init 28 = .ok (.getfield 19, 3) := by decide +kernel
theorem dX6_init_31 : decode cX6_init 31 = .ok (.getfield 23, 3) := by decide +kernel
theorem dX6_init_34 : decode cX6_init 34 = .ok (.putfield 27, 3) := by decide +kernel
theorem dX6_init_37 : decode cX6_init 37 = .ok (.aload_n 0, 1) := by decide +kernel
theorem dX6_init_38 : decode cX6_init 38 = .ok (.iconst 2, 1) := by decide +kernel
theorem dX6_init_39 : decode cX6_init 39 = .ok (.anewarray 28, 3) := by decide +kernel
theorem dX6_init_42 : decode cX6_init 42 = .ok (.putfield 30, 3) := by decide +kernel
theorem dX6_init_45 : decode cX6_init 45 = .ok (.return_, 1) := by decide +kernel
set_option maxRecDepth 20000 in
theorem ggX6_row_X6_isMember : GoodIn wsX6_row wsX6_isMember := goodIn_r _ [5] (by decide +kernel) (by decide +kernel)
set_option maxRecDepth 20000 in
theorem gX6_row_X6_isMember : GoodIn wsX6_row (va_wsS RX6 34 yX6_isMember wsX6_isMember) := goodIn_app (goodIn_of _ (by decide +kernel)) ggX6_row_X6_isMember
set_option maxRecDepth 20000 in
theorem ggX6_row_X6_isValue : GoodIn wsX6_row wsX6_isValue := goodIn_r _ [8] (by decide +kernel) (by decide +kernel)
set_option maxRecDepth 20000 in
theorem gX6_row_X6_isValue : GoodIn wsX6_row (va_wsS RX6 38 yX6_isValue wsX6_isValue) := goodIn_app (goodIn_of _ (by decide +kernel)) ggX6_row_X6_isValue
theorem dX6_row_0 : decode cX6_row 0 = .ok (.iload_n 1, 1) := by decide +kernel
theorem dX6_row_1 : decode cX6_row 1 = .ok (.ifCond .eq 12, 3) := by decide +kernel
theorem dX6_row_4 : decode cX6_row 4 = .ok (.iload_n 1, 1) := by decide +kernel
theorem dX6_row_5 : decode cX6_row 5 = .ok (.invokestatic 34, 3) := by decide +kernel
theorem dX6_row_8 : decode cX6_row 8 = .ok (.ifCond .ne 5, 3) := by decide +kernel
theorem dX6_row_11 : decode cX6_row 11 = .ok (.iconst (-1), 1) := by decide +kernel
theorem dX6_row_12 : decode cX6_row 12 = .ok (.ireturn, 1) := by decide +kernel
theorem dX6_row_13 : decode cX6_row 13 = .ok (.iload_n 2, 1) := by decide +kernel
theorem dX6_row_14 : decode cX6_row 14 = .ok (.ifCond .lt 15, 3) := by decide +kernel
theorem dX6_row_17 : decode cX6_row 17 = .ok (.iload_n 2, 1) := by decide +kernel
theorem dX6_row_18 : decode cX6_row 18 = .ok (.iconst 5, 1) := by decide +kernel
theorem dX6_row_19 : decode cX6_row 19 = .ok (.if_icmp .ge 10, 3) := by decide +kernel
theorem dX6_row_22 : decode cX6_row 22 = .ok (.iload_n 3, 1) := by decide +kernel
theorem dX6_row_23 : decode cX6_row 23 = .ok (.invokestatic 38, 3) := by decide +kernel
theorem dX6_row_26 : decode cX6_row 26 = .ok (.ifCond .ne 6, 3) := by decide +kernel
theorem dX6_row_29 : decode cX6_row 29 = .ok (.bipush (-2), 2) := by decide +kernel
theorem dX6_row_31 : decode cX6_row 31 = .ok (.ireturn, 1) := by decide +kernel
theorem dX6_row_32 : decode cX6_row 32 = .ok (.iload_n 1, 1) := by decide +kernel
theorem dX6_row_33 : decode cX6_row 33 = .ok (.iconst 5, 1) := by decide +kernel
theorem dX6_row_34 : decode cX6_row 34 = .ok (.imul, 1) := by decide +kernel
theorem dX6_row_35 : decode cX6_row 35 = .ok (.iload_n 2, 1) := by decide +kernel
theorem dX6_row_36 : decode cX6_row 36 = .ok (.iadd, 1) := by decide +kernel
theorem dX6_row_37 : decode cX6_row 37 = .ok (.istore 4, 2) := by decide +kernel
theorem dX6_row_39 : decode cX6_row 39 = .ok (.aload_n 0, 1) := by decide +kernel
theorem dX6_row_40 : decode cX6_row 40 = .ok (.getfield 27, 3) := by decide +kernel
theorem dX6_row_43 : decode cX6_row 43 = .ok (.getfield 41, 3) := by decide +kernel
theorem dX6_row_46 : decode cX6_row 46 = .ok (.iload 4, 2) := by decide +kernel
theorem dX6_row_48 : decode cX6_row 48 = .ok (.iaload, 1) := by decide +kernel
theorem dX6_row_49 : decode cX6_row 49 = .ok (.istore 5, 2) := by decide +kernel
theorem dX6_row_51 : decode cX6_row 51 = .ok (.aload_n 0, 1) := by decide +kernel
theorem dX6_row_52 : decode cX6_row 52 = .ok (.getfield 27, 3) := by decide +kernel
theorem dX6_row_55 : decode cX6_row 55 = .ok (.getfield 41, 3) := by decide +kernel
theorem dX6_row_58 : decode cX6_row 58 = .ok (.iload 4, 2) := by decide +kernel
theorem dX6_row_60 : decode cX6_row 60 = .ok (.iload_n 3, 1) := by decide +kernel
theorem dX6_row_61 : decode cX6_row 61 = .ok (.iastore, 1) := by decide +kernel
theorem dX6_row_62 : decode cX6_row 62 = .ok (.iload 5, 2) := by decide +kernel
theorem dX6_row_64 : decode cX6_row 64 = .ok (.ireturn, 1) := by decide +kernel
set_option maxRecDepth 20000 in
theorem ggX6_bent_X6_isMember : GoodIn wsX6_bent wsX6_isMember := goodIn_r _ [5] (by decide +kernel) (by decide +kernel)
set_option maxRecDepth 20000 in
theorem gX6_bent_X6_isMember : GoodIn wsX6_bent (va_wsS RX6 34 yX6_isMember wsX6_isMember) := goodIn_app (goodIn_of _ (by decide +kernel)) ggX6_bent_X6_isMember
set_option maxRecDepth 20000 in
theorem ggX6_bent_X6_highestBend : GoodIn wsX6_bent wsX6_highestBend := goodIn_r _ [8] (by decide +kernel) (by decide +kernel)
set_option maxRecDepth 20000 in
theorem gX6_bent_X6_highestBend : GoodIn wsX6_bent (va_wsS RX6 45 yX6_highestBend wsX6_highestBend) := goodIn_app (goodIn_of _ (by decide +kernel)) ggX6_bent_X6_highestBend
theorem dX6_bent_0 : decode cX6_bent 0 = .ok (.iload_n 1, 1) := by decide +kernel
theorem dX6_bent_1 : decode cX6_bent 1 = .ok (.invokestatic 34, 3) := by decide +kernel
theorem dX6_bent_4 : decode cX6_bent 4 = .ok (.ifCond .ne 5, 3) := by decide +kernel
theorem dX6_bent_7 : decode cX6_bent 7 = .ok (.iconst (-1), 1) := by decide +kernel
theorem dX6_bent_8 : decode cX6_bent 8 = .ok (.ireturn, 1) := by decide +kernel
theorem dX6_bent_9 : decode cX6_bent 9 = .ok (.iload_n 2, 1) := by decide +kernel
theorem dX6_bent_10 : decode cX6_bent 10 = .ok (.ifCond .lt 20, 3) := by decide +kernel
theorem dX6_bent_13 : decode cX6_bent 13 = .ok (.iload_n 2, 1) := by decide +kernel
theorem dX6_bent_14 : decode cX6_bent 14 = .ok (.iconst 5, 1) := by decide +kernel
theorem dX6_bent_15 : decode cX6_bent 15 = .ok (.if_icmp .ge 15, 3) := by decide +kernel
theorem dX6_bent_18 : decode cX6_bent 18 = .ok (.iload_n 3, 1) := by decide +kernel
theorem dX6_bent_19 : decode cX6_bent 19 = .ok (.ifCond .lt 11, 3) := by decide +kernel
theorem dX6_bent_22 : decode cX6_bent 22 = .ok (.iload_n 3, 1) := by decide +kernel
theorem dX6_bent_23 : decode cX6_bent 23 = .ok (.iload_n 2, 1) := by decide +kernel
theorem dX6_bent_24 : decode cX6_bent 24 = .ok (.invokestatic 45, 3) := by decide +kernel
theorem dX6_bent_27 : decode cX6_bent 27 = .ok (.if_icmp .le 6, 3) := by decide +kernel
theorem dX6_bent_30 : decode cX6_bent 30 = .ok (.bipush (-2), 2) := by decide +kernel
theorem dX6_bent_32 : decode cX6_bent 32 = .ok (.ireturn, 1) := by decide +kernel
theorem dX6_bent_33 : decode cX6_bent 33 = .ok (.iload_n 1, 1) := by decide +kernel
theorem dX6_bent_34 : decode cX6_bent 34 = .ok (.iconst 5, 1) := by decide +kernel
theorem dX6_bent_35 : decode cX6_bent 35 = .ok (.imul, 1) := by decide +kernel
theorem dX6_bent_36 : decode cX6_bent 36 = .ok (.iload_n 2, 1) := by decide +kernel
theorem dX6_bent_37 : decode cX6_bent 37 = .ok (.iadd, 1) := by decide +kernel
theorem dX6_bent_38 : decode cX6_bent 38 = .ok (.istore 4, 2) := by decide +kernel
theorem dX6_bent_40 : decode cX6_bent 40 = .ok (.aload_n 0, 1) := by decide +kernel
theorem dX6_bent_41 : decode cX6_bent 41 = .ok (.getfield 27, 3) := by decide +kernel
theorem dX6_bent_44 : decode cX6_bent 44 = .ok (.getfield 49, 3) := by decide +kernel
theorem dX6_bent_47 : decode cX6_bent 47 = .ok (.iload 4, 2) := by decide +kernel
theorem dX6_bent_49 : decode cX6_bent 49 = .ok (.iaload, 1) := by decide +kernel
theorem dX6_bent_50 : decode cX6_bent 50 = .ok (.istore 5, 2) := by decide +kernel
theorem dX6_bent_52 : decode cX6_bent 52 = .ok (.aload_n 0, 1) := by decide +kernel
theorem dX6_bent_53 : decode cX6_bent 53 = .ok (.getfield 27, 3) := by decide +kernel
theorem dX6_bent_56 : decode cX6_bent 56 = .ok (.getfield 49, 3) := by decide +kernel
theorem dX6_bent_59 : decode cX6_bent 59 = .ok (.iload 4, 2) := by decide +kernel
theorem dX6_bent_61 : decode cX6_bent 61 = .ok (.iload_n 3, 1) := by decide +kernel
theorem dX6_bent_62 : decode cX6_bent 62 = .ok (.iastore, 1) := by decide +kernel
theorem dX6_bent_63 : decode cX6_bent 63 = .ok (.iload 5, 2) := by decide +kernel
theorem dX6_bent_65 : decode cX6_bent 65 = .ok (.ireturn, 1) := by decide +kernel
set_option maxRecDepth 20000 in
theorem ggX6_member_X6_isMember : GoodIn wsX6_member wsX6_isMember := goodIn_r _ [5] (by decide +kernel) (by decide +kernel)
set_option maxRecDepth 20000 in
theorem gX6_member_X6_isMember : GoodIn wsX6_member (va_wsS RX6 34 yX6_isMember wsX6_isMember) := goodIn_app (goodIn_of _ (by decide +kernel)) ggX6_member_X6_isMember
set_option maxRecDepth 20000 in
theorem ggX6_member_X6_shareFacts : GoodIn wsX6_member wsX6_shareFacts := goodIn_r _ [9, 1, 10, 11, 12, 13, 14, 15, 16, 17, 18, 19, 20, 21, 22, 23, 24, 25, 26, 27, 28, 29, 30, 31, 32, 33, 34, 35, 36, 37, 38, 39, 40, 41, 42, 43, 44, 45, 46, 47, 48, 49, 50, 51, 52, 53, 54, 55, 56, 57, 58, 59, 60] (by decide +kernel) (by decide +kernel)
set_option maxRecDepth 20000 in
theorem gX6_member_X6_shareFacts : GoodIn wsX6_member (wsV RX6 52 RX6 yX6_shareFacts wsX6_shareFacts) := goodIn_app (goodIn_of _ (by decide +kernel)) ggX6_member_X6_shareFacts
theorem dX6_member_0 : decode cX6_member 0 = .ok (.iload_n 1, 1) := by decide +kernel
theorem dX6_member_1 : decode cX6_member 1 = .ok (.invokestatic 34, 3) := by decide +kernel
theorem dX6_member_4 : decode cX6_member 4 = .ok (.ifCond .ne 5, 3) := by decide +kernel
theorem dX6_member_7 : decode cX6_member 7 = .ok (.iconst (-1), 1) := by decide +kernel
theorem dX6_member_8 : decode cX6_member 8 = .ok (.ireturn, 1) := by decide +kernel
theorem dX6_member_9 : decode cX6_member 9 = .ok (.iload_n 2, 1) := by decide +kernel
theorem dX6_member_10 : decode cX6_member 10 = .ok (.ifCond .lt 15, 3) := by decide +kernel
theorem dX6_member_13 : decode cX6_member 13 = .ok (.iload_n 2, 1) := by decide +kernel
theorem dX6_member_14 : decode cX6_member 14 = .ok (.iconst 2, 1) := by decide +kernel
theorem dX6_member_15 : decode cX6_member 15 = .ok (.if_icmp .gt 10, 3) := by decide +kernel
theorem dX6_member_18 : decode cX6_member 18 = .ok (.aload_n 0, 1) := by decide +kernel
theorem dX6_member_19 : decode cX6_member 19 = .ok (.iload_n 1, 1) := by decide +kernel
theorem dX6_member_20 : decode cX6_member 20 = .ok (.iload_n 2, 1) := by decide +kernel
theorem dX6_member_21 : decode cX6_member 21 = .ok (.invokevirtual 52, 3) := by decide +kernel
theorem dX6_member_24 : decode cX6_member 24 = .ok (.ireturn, 1) := by decide +kernel
theorem dX6_member_25 : decode cX6_member 25 = .ok (.iload_n 2, 1) := by decide +kernel
theorem dX6_member_26 : decode cX6_member 26 = .ok (.iconst 3, 1) := by decide +kernel
theorem dX6_member_27 : decode cX6_member 27 = .ok (.if_icmp .lt 25, 3) := by decide +kernel
theorem dX6_member_30 : decode cX6_member 30 = .ok (.iload_n 2, 1) := by decide +kernel
theorem dX6_member_31 : decode cX6_member 31 = .ok (.bipush 8, 2) := by decide +kernel
theorem dX6_member_33 : decode cX6_member 33 = .ok (.if_icmp .ge 19, 3) := by decide +kernel
theorem dX6_member_36 : decode cX6_member 36 = .ok (.aload_n 0, 1) := by decide +kernel
theorem dX6_member_37 : decode cX6_member 37 = .ok (.getfield 27, 3) := by decide +kernel
theorem dX6_member_40 : decode cX6_member 40 = .ok (.getfield 49, 3) := by decide +kernel
theorem dX6_member_43 : decode cX6_member 43 = .ok (.iload_n 1, 1) := by decide +kernel
theorem dX6_member_44 : decode cX6_member 44 = .ok (.iconst 5, 1) := by decide +kernel
theorem dX6_member_45 : decode cX6_member 45 = .ok (.imul, 1) := by decide +kernel
theorem dX6_member_46 : decode cX6_member 46 = .ok (.iload_n 2, 1) := by decide +kernel
theorem dX6_member_47 : decode cX6_member 47 = .ok (.iadd, 1) := by decide +kernel
theorem dX6_member_48 : decode cX6_member 48 = .ok (.iconst 3, 1) := by decide +kernel
theorem dX6_member_49 : decode cX6_member 49 = .ok (.isub, 1) := by decide +kernel
theorem dX6_member_50 : decode cX6_member 50 = .ok (.iaload, 1) := by decide +kernel
theorem dX6_member_51 : decode cX6_member 51 = .ok (.ireturn, 1) := by decide +kernel
theorem dX6_member_52 : decode cX6_member 52 = .ok (.iload_n 2, 1) := by decide +kernel
theorem dX6_member_53 : decode cX6_member 53 = .ok (.bipush 10, 2) := by decide +kernel
theorem dX6_member_55 : decode cX6_member 55 = .ok (.if_icmp .lt 26, 3) := by decide +kernel
theorem dX6_member_58 : decode cX6_member 58 = .ok (.iload_n 2, 1) := by decide +kernel
theorem dX6_member_59 : decode cX6_member 59 = .ok (.bipush 15, 2) := by decide +kernel
theorem dX6_member_61 : decode cX6_member 61 = .ok (.if_icmp .ge 20, 3) := by decide +kernel
theorem dX6_member_64 : decode cX6_member 64 = .ok (.aload_n 0, 1) := by decide +kernel
theorem dX6_member_65 : decode cX6_member 65 = .ok (.getfield 27, 3) := by decide +kernel
theorem dX6_member_68 : decode cX6_member 68 = .ok (.getfield 41, 3) := by decide +kernel
theorem dX6_member_71 : decode cX6_member 71 = .ok (.iload_n 1, 1) := by decide +kernel
theorem dX6_member_72 : decode cX6_member 72 = .ok (.iconst 5, 1) := by decide +kernel
theorem dX6_member_73 : decode cX6_member 73 = .ok (.imul, 1) := by decide +kernel
theorem dX6_member_74 : decode cX6_member 74 = .ok (.iload_n 2, 1) := by decide +kernel
theorem dX6_member_75 : decode cX6_member 75 = .ok (.iadd, 1) := by decide +kernel
theorem dX6_member_76 : decode cX6_member 76 = .ok (.bipush 10, 2) := by decide +kernel
theorem dX6_member_78 : decode cX6_member 78 = .ok (.isub, 1) := by decide +kernel
theorem dX6_member_79 : decode cX6_member 79 = .ok (.iaload, 1) := by decide +kernel
theorem dX6_member_80 : decode cX6_member 80 = .ok (.ireturn, 1) := by decide +kernel
theorem dX6_member_81 : decode cX6_member 81 = .ok (.bipush (-2), 2) := by decide +kernel
theorem dX6_member_83 : decode cX6_member 83 = .ok (.ireturn, 1) := by decide +kernel
set_option maxRecDepth 20000 in
theorem ggX6_say_X3_append : GoodIn wsX6_say wsX3_append := goodIn_r _ [6, 7, 8, 13, 14] (by decide +kernel) (by decide +kernel)
set_option maxRecDepth 20000 in
theorem gX6_say_X3_append : GoodIn wsX6_say (wsV RX6 56 RX3 yX3_append wsX3_append) := goodIn_app (goodIn_of _ (by decide +kernel)) ggX6_say_X3_append
theorem dX6_say_0 : decode cX6_say 0 = .ok (.iload_n 1, 1) := by decide +kernel
theorem dX6_say_1 : decode cX6_say 1 = .ok (.bipush 33, 2) := by decide +kernel
theorem dX6_say_3 : decode cX6_say 3 = .ok (.if_icmp .lt 9, 3) := by decide +kernel
theorem dX6_say_6 : decode cX6_say 6 = .ok (.iload_n 1, 1) := by decide +kernel
theorem dX6_say_7 : decode cX6_say 7 = .ok (.bipush 126, 2) := by decide +kernel
theorem dX6_say_9 : decode cX6_say 9 = .ok (.if_icmp .le 6, 3) := by decide +kernel
theorem dX6_say_12 : decode cX6_say 12 = .ok (.bipush (-2), 2) := by decide +kernel
theorem dX6_say_14 : decode cX6_say 14 = .ok (.ireturn, 1) := by decide +kernel
theorem dX6_say_15 : decode cX6_say 15 = .ok (.aload_n 0, 1) := by decide +kernel
theorem dX6_say_16 : decode cX6_say 16 = .ok (.getfield 10, 3) := by decide +kernel
theorem dX6_say_19 : decode cX6_say 19 = .ok (.iload_n 1, 1) := by decide +kernel
theorem dX6_say_20 : decode cX6_say 20 = .ok (.invokevirtual 56, 3) := by decide +kernel
theorem dX6_say_23 : decode cX6_say 23 = .ok (.ifCond .eq 13, 3) := by decide +kernel
theorem dX6_say_26 : decode cX6_say 26 = .ok (.aload_n 0, 1) := by decide +kernel
theorem dX6_say_27 : decode cX6_say 27 = .ok (.getfield 10, 3) := by decide +kernel
theorem dX6_say_30 : decode cX6_say 30 = .ok (.getfield 59, 3) := by decide +kernel
theorem dX6_say_33 : decode cX6_say 33 = .ok (.goto 5, 3) := by decide +kernel
theorem dX6_say_36 : decode cX6_say 36 = .ok (.bipush (-4), 2) := by decide +kernel
theorem dX6_say_38 : decode cX6_say 38 = .ok (.ireturn, 1) := by decide +kernel
theorem dX6_wipe_0 : decode cX6_wipe 0 = .ok (.aload_n 0, 1) := by decide +kernel
theorem dX6_wipe_1 : decode cX6_wipe 1 = .ok (.getfield 10, 3) := by decide +kernel
theorem dX6_wipe_4 : decode cX6_wipe 4 = .ok (.getfield 59, 3) := by decide +kernel
theorem dX6_wipe_7 : decode cX6_wipe 7 = .ok (.istore_n 1, 1) := by decide +kernel
theorem dX6_wipe_8 : decode cX6_wipe 8 = .ok (.aload_n 0, 1) := by decide +kernel
theorem dX6_wipe_9 : decode cX6_wipe 9 = .ok (.getfield 10, 3) := by decide +kernel
theorem dX6_wipe_12 : decode cX6_wipe 12 = .ok (.iconst 0, 1) := by decide +kernel
theorem dX6_wipe_13 : decode cX6_wipe 13 = .ok (.putfield 59, 3) := by decide +kernel
theorem dX6_wipe_16 : decode cX6_wipe 16 = .ok (.iload_n 1, 1) := by decide +kernel
theorem dX6_wipe_17 : decode cX6_wipe 17 = .ok (.ireturn, 1) := by decide +kernel
set_option maxRecDepth 20000 in
theorem ggX6_fault_X3_faultPlace : GoodIn wsX6_fault wsX3_faultPlace := goodIn_r _ [6, 7, 8, 9, 10, 5, 11, 12, 13, 14, 15, 16, 17, 18, 19, 20, 21, 22, 23, 24, 25, 26, 27, 28, 29, 30, 31, 32, 33, 34, 35, 36, 37, 38, 43, 44] (by decide +kernel) (by decide +kernel)
set_option maxRecDepth 20000 in
theorem gX6_fault_X3_faultPlace : GoodIn wsX6_fault (wsV RX6 63 RX3 yX3_faultPlace wsX3_faultPlace) := goodIn_app (goodIn_of _ (by decide +kernel)) ggX6_fault_X3_faultPlace
theorem dX6_fault_0 : decode cX6_fault 0 = .ok (.aload_n 0, 1) := by decide +kernel
theorem dX6_fault_1 : decode cX6_fault 1 = .ok (.getfield 10, 3) := by decide +kernel
theorem dX6_fault_4 : decode cX6_fault 4 = .ok (.invokevirtual 63, 3) := by decide +kernel
theorem dX6_fault_7 : decode cX6_fault 7 = .ok (.ireturn, 1) := by decide +kernel
set_option maxRecDepth 20000 in
theorem ggX6_act_X3_faultPlace : GoodIn wsX6_act wsX3_faultPlace := goodIn_r _ [8, 9, 10, 11, 12, 7, 13, 14, 15, 16, 17, 18, 19, 20, 21, 22, 23, 24, 25, 26, 27, 28, 29, 30, 31, 32, 33, 34, 35, 36, 37, 38, 39, 40, 231, 232] (by decide +kernel) (by decide +kernel)
set_option maxRecDepth 20000 in
theorem gX6_act_X3_faultPlace : GoodIn wsX6_act (wsV RX6 63 RX3 yX3_faultPlace wsX3_faultPlace) := goodIn_app (goodIn_of _ (by decide +kernel)) ggX6_act_X3_faultPlace
set_option maxRecDepth 20000 in
theorem ggX6_act_X2_perform : GoodIn wsX6_act wsX2_perform := goodIn_r _ [45, 46, 47, 15, 16, 7, 17, 18, 19, 20, 21, 9, 22, 48, 49, 50, 51, 52, 53, 54, 55, 56, 44, 57, 58, 59, 60, 61, 62, 63, 64, 65, 66, 67, 68, 27, 28, 29, 69, 70, 71, 72, 30, 31, 32, 33, 14, 26, 34, 35, 36, 73, 74, 75, 76, 77, 78, 79, 80, 81, 82, 83, 84, 85, 86, 87, 88, 89, 90, 91, 92, 93, 94, 95, 96, 97, 98, 99, 100, 101, 102, 103, 104, 105, 106, 107, 108, 109, 110, 111, 112, 113, 114, 115, 116, 117, 118, 119, 120, 121, 122, 123, 124, 125, 126, 127, 128, 129, 130, 131, 132, 133, 134, 135, 136, 137, 138, 139, 140, 141, 142, 143, 144, 145, 146, 147, 148, 149, 150, 151, 152, 153, 154, 155, 156, 157, 158, 159, 160, 161, 162, 163, 164, 165, 166, 167, 168, 169, 170, 171, 172, 173, 174, 175, 176, 177, 178, 179, 180, 181, 182, 183, 184, 185, 186, 187, 188, 189, 190, 191, 192, 193, 194, 195, 196, 197, 198, 199, 200, 201, 202, 203, 204, 205, 206, 207, 208, 209, 210, 211, 212, 213, 214, 215, 216, 217, 218, 219, 220, 221, 222, 223, 224, 225, 226, 245, 246, 247, 248, 249, 250, 233, 234, 235, 236, 237, 238, 239, 240, 241, 242, 243, 244, 231, 232, 251, 252, 253, 254] (by decide +kernel) (by decide +kernel)
set_option maxRecDepth 20000 in
theorem gX6_act_X2_perform : GoodIn wsX6_act (wsV RX6 67 RX2 yX2_perform wsX2_perform) := goodIn_app (goodIn_of _ (by decide +kernel)) ggX6_act_X2_perform
theorem dX6_act_0 : decode cX6_act 0 = .ok (.aload_n 0, 1) := by decide +kernel
theorem dX6_act_1 : decode cX6_act 1 = .ok (.getfield 10, 3) := by decide +kernel
theorem dX6_act_4 : decode cX6_act 4 = .ok (.invokevirtual 63, 3) := by decide +kernel
theorem dX6_act_7 : decode cX6_act 7 = .ok (.bipush (-6), 2) := by decide +kernel
theorem dX6_act_9 : decode cX6_act 9 = .ok (.if_icmp .eq 6, 3) := by decide +kernel
theorem dX6_act_12 : decode cX6_act 12 = .ok (.bipush (-7), 2) := by decide +kernel
theorem dX6_act_14 : decode cX6_act 14 = .ok (.ireturn, 1) := by decide +kernel
theorem dX6_act_15 : decode cX6_act 15 = .ok (.aload_n 0, 1) := by decide +kernel
theorem dX6_act_16 : decode cX6_act 16 = .ok (.getfield 19, 3) := by decide +kernel
theorem dX6_act_19 : decode cX6_act 19 = .ok (.aload_n 0, 1) := by decide +kernel
theorem dX6_act_20 : decode cX6_act 20 = .ok (.getfield 10, 3) := by decide +kernel
theorem dX6_act_23 : decode cX6_act 23 = .ok (.invokevirtual 67, 3) := by decide +kernel
theorem dX6_act_26 : decode cX6_act 26 = .ok (.istore_n 1, 1) := by decide +kernel
theorem dX6_act_27 : decode cX6_act 27 = .ok (.iload_n 1, 1) := by decide +kernel
theorem dX6_act_28 : decode cX6_act 28 = .ok (.ifCond .lt 24, 3) := by decide +kernel
theorem dX6_act_31 : decode cX6_act 31 = .ok (.aload_n 0, 1) := by decide +kernel
theorem dX6_act_32 : decode cX6_act 32 = .ok (.getfield 10, 3) := by decide +kernel
theorem dX6_act_35 : decode cX6_act 35 = .ok (.iconst 0, 1) := by decide +kernel
theorem dX6_act_36 : decode cX6_act 36 = .ok (.putfield 59, 3) := by decide +kernel
theorem dX6_act_39 : decode cX6_act 39 = .ok (.aload_n 0, 1) := by decide +kernel
theorem dX6_act_40 : decode cX6_act 40 = .ok (.getfield 27, 3) := by decide +kernel
theorem dX6_act_43 : decode cX6_act 43 = .ok (.dup, 1) := by decide +kernel
theorem dX6_act_44 : decode cX6_act 44 = .ok (.getfield 71, 3) := by decide +kernel
theorem dX6_act_47 : decode cX6_act 47 = .ok (.iconst 1, 1) := by decide +kernel
theorem dX6_act_48 : decode cX6_act 48 = .ok (.iadd, 1) := by decide +kernel
theorem dX6_act_49 : decode cX6_act 49 = .ok (.putfield 71, 3) := by decide +kernel
theorem dX6_act_52 : decode cX6_act 52 = .ok (.iload_n 1, 1) := by decide +kernel
theorem dX6_act_53 : decode cX6_act 53 = .ok (.ireturn, 1) := by decide +kernel
theorem dX6_named_0 : decode cX6_named 0 = .ok (.iload_n 1, 1) := by decide +kernel
theorem dX6_named_1 : decode cX6_named 1 = .ok (.ifCond .ne 11, 3) := by decide +kernel
theorem dX6_named_4 : decode cX6_named 4 = .ok (.aload_n 0, 1) := by decide +kernel
theorem dX6_named_5 : decode cX6_named 5 = .ok (.getfield 27, 3) := by decide +kernel
theorem dX6_named_8 : decode cX6_named 8 = .ok (.getfield 74, 3) := by decide +kernel
theorem dX6_named_11 : decode cX6_named 11 = .ok (.ireturn, 1) := by decide +kernel
theorem dX6_named_12 : decode cX6_named 12 = .ok (.iload_n 1, 1) := by decide +kernel
theorem dX6_named_13 : decode cX6_named 13 = .ok (.iconst 1, 1) := by decide +kernel
theorem dX6_named_14 : decode cX6_named 14 = .ok (.if_icmp .ne 13, 3) := by decide +kernel
theorem dX6_named_17 : decode cX6_named 17 = .ok (.aload_n 0, 1) := by decide +kernel
theorem dX6_named_18 : decode cX6_named 18 = .ok (.getfield 27, 3) := by decide +kernel
theorem dX6_named_21 : decode cX6_named 21 = .ok (.getfield 77, 3) := by decide +kernel
theorem dX6_named_24 : decode cX6_named 24 = .ok (.goto 5, 3) := by decide +kernel
theorem dX6_named_27 : decode cX6_named 27 = .ok (.bipush (-2), 2) := by decide +kernel
theorem dX6_named_29 : decode cX6_named 29 = .ok (.ireturn, 1) := by decide +kernel
set_option maxRecDepth 20000 in
theorem ggX6_fits_X6_isValue : GoodIn wsX6_fits wsX6_isValue := goodIn_r _ [5] (by decide +kernel) (by decide +kernel)
set_option maxRecDepth 20000 in
theorem gX6_fits_X6_isValue : GoodIn wsX6_fits (va_wsS RX6 38 yX6_isValue wsX6_isValue) := goodIn_app (goodIn_of _ (by decide +kernel)) ggX6_fits_X6_isValue
set_option maxRecDepth 20000 in
theorem ggX6_fits_X0_isDealt : GoodIn wsX6_fits wsX0_isDealt := goodIn_r _ [10, 11, 33, 34, 35, 36, 37, 38, 39, 40, 41, 42, 43, 44] (by decide +kernel) (by decide +kernel)
set_option maxRecDepth 20000 in
theorem gX6_fits_X0_isDealt : GoodIn wsX6_fits (wsV RX6 80 RX0 yX0_isDealt wsX0_isDealt) := goodIn_app (goodIn_of _ (by decide +kernel)) ggX6_fits_X0_isDealt
set_option maxRecDepth 20000 in
theorem ggX6_fits_X5_fitting : GoodIn wsX6_fits wsX5_fitting := goodIn_r _ [15, 16, 17, 18, 19, 20, 21, 14, 22, 23, 24, 25, 26, 27, 28] (by decide +kernel) (by decide +kernel)
set_option maxRecDepth 20000 in
theorem gX6_fits_X5_fitting : GoodIn wsX6_fits (va_wsS RX6 90 yX5_fitting wsX5_fitting) := goodIn_app (goodIn_of _ (by decide +kernel)) ggX6_fits_X5_fitting
theorem dX6_fits_0 : decode cX6_fits 0 = .ok (.iload_n 1, 1) := by decide +kernel
theorem dX6_fits_1 : decode cX6_fits 1 = .ok (.invokestatic 38, 3) := by decide +kernel
theorem dX6_fits_4 : decode cX6_fits 4 = .ok (.ifCond .eq 10, 3) := by decide +kernel
theorem dX6_fits_7 : decode cX6_fits 7 = .ok (.iload_n 2, 1) := by decide +kernel
theorem dX6_fits_8 : decode cX6_fits 8 = .ok (.invokestatic 38, 3) := by decide +kernel
theorem dX6_fits_11 : decode cX6_fits 11 = .ok (.ifCond .ne 6, 3) := by decide +kernel
theorem dX6_fits_14 : decode cX6_fits 14 = .ok (.bipush (-2), 2) := by decide +kernel
theorem dX6_fits_16 : decode cX6_fits 16 = .ok (.ireturn, 1) := by decide +kernel
theorem dX6_fits_17 : decode cX6_fits 17 = .ok (.aload_n 0, 1) := by decide +kernel
theorem dX6_fits_18 : decode cX6_fits 18 = .ok (.getfield 27, 3) := by decide +kernel
theorem dX6_fits_21 : decode cX6_fits 21 = .ok (.invokevirtual 80, 3) := by decide +kernel
theorem dX6_fits_24 : decode cX6_fits 24 = .ok (.ifCond .ne 6, 3) := by decide +kernel
theorem dX6_fits_27 : decode cX6_fits 27 = .ok (.bipush (-3), 2) := by decide +kernel
theorem dX6_fits_29 : decode cX6_fits 29 = .ok (.ireturn, 1) := by decide +kernel
theorem dX6_fits_30 : decode cX6_fits 30 = .ok (.iload_n 1, 1) := by decide +kernel
theorem dX6_fits_31 : decode cX6_fits 31 = .ok (.iload_n 2, 1) := by decide +kernel
theorem dX6_fits_32 : decode cX6_fits 32 = .ok (.aload_n 0, 1) := by decide +kernel
theorem dX6_fits_33 : decode cX6_fits 33 = .ok (.getfield 27, 3) := by decide +kernel
theorem dX6_fits_36 : decode cX6_fits 36 = .ok (.getfield 84, 3) := by decide +kernel
theorem dX6_fits_39 : decode cX6_fits 39 = .ok (.aload_n 0, 1) := by decide +kernel
theorem dX6_fits_40 : decode cX6_fits 40 = .ok (.getfield 27, 3) := by decide +kernel
theorem dX6_fits_43 : decode cX6_fits 43 = .ok (.getfield 87, 3) := by decide +kernel
theorem dX6_fits_46 : decode cX6_fits 46 = .ok (.invokestatic 90, 3) := by decide +kernel
theorem dX6_fits_49 : decode cX6_fits 49 = .ok (.ifCond .eq 7, 3) := by decide +kernel
theorem dX6_fits_52 : decode cX6_fits 52 = .ok (.iconst 1, 1) := by decide +kernel
theorem dX6_fits_53 : decode cX6_fits 53 = .ok (.goto 4, 3) := by decide +kernel
theorem dX6_fits_56 : decode cX6_fits 56 = .ok (.iconst 0, 1) := by decide +kernel
theorem dX6_fits_57 : decode cX6_fits 57 = .ok (.ireturn, 1) := by decide +kernel
set_option maxRecDepth 20000 in
theorem ggX6_seal_X0_isDealt : GoodIn wsX6_seal wsX0_isDealt := goodIn_r _ [6, 7, 12, 13, 14, 15, 16, 17, 18, 19, 20, 21, 22, 23] (by decide +kernel) (by decide +kernel)
set_option maxRecDepth 20000 in
theorem gX6_seal_X0_isDealt : GoodIn wsX6_seal (wsV RX6 80 RX0 yX0_isDealt wsX0_isDealt) := goodIn_app (goodIn_of _ (by decide +kernel)) ggX6_seal_X0_isDealt
theorem dX6_seal_0 : decode cX6_seal 0 = .ok (.aload_n 0, 1) := by decide +kernel
theorem dX6_seal_1 : decode cX6_seal 1 = .ok (.getfield 27, 3) := by decide +kernel
theorem dX6_seal_4 : decode cX6_seal 4 = .ok (.invokevirtual 80, 3) := by decide +kernel
theorem dX6_seal_7 : decode cX6_seal 7 = .ok (.ifCond .ne 6, 3) := by decide +kernel
theorem dX6_seal_10 : decode cX6_seal 10 = .ok (.bipush (-3), 2) := by decide +kernel
theorem dX6_seal_12 : decode cX6_seal 12 = .ok (.ireturn, 1) := by decide +kernel
theorem dX6_seal_13 : decode cX6_seal 13 = .ok (.iload_n 1, 1) := by decide +kernel
theorem dX6_seal_14 : decode cX6_seal 14 = .ok (.ifCond .lt 19, 3) := by decide +kernel
theorem dX6_seal_17 : decode cX6_seal 17 = .ok (.iload_n 1, 1) := by decide +kernel
theorem dX6_seal_18 : decode cX6_seal 18 = .ok (.iconst 5, 1) := by decide +kernel
theorem dX6_seal_19 : decode cX6_seal 19 = .ok (.if_icmp .ge 14, 3) := by decide +kernel
theorem dX6_seal_22 : decode cX6_seal 22 = .ok (.iload_n 1, 1) := by decide +kernel
theorem dX6_seal_23 : decode cX6_seal 23 = .ok (.aload_n 0, 1) := by decide +kernel
theorem dX6_seal_24 : decode cX6_seal 24 = .ok (.getfield 27, 3) := by decide +kernel
theorem dX6_seal_27 : decode cX6_seal 27 = .ok (.getfield 87, 3) := by decide +kernel
theorem dX6_seal_30 : decode cX6_seal 30 = .ok (.if_icmp .lt 6, 3) := by decide +kernel
theorem dX6_seal_33 : decode cX6_seal 33 = .ok (.bipush (-6), 2) := by decide +kernel
theorem dX6_seal_35 : decode cX6_seal 35 = .ok (.ireturn, 1) := by decide +kernel
theorem dX6_seal_36 : decode cX6_seal 36 = .ok (.aload_n 0, 1) := by decide +kernel
theorem dX6_seal_37 : decode cX6_seal 37 = .ok (.getfield 27, 3) := by decide +kernel
theorem dX6_seal_40 : decode cX6_seal 40 = .ok (.getfield 84, 3) := by decide +kernel
theorem dX6_seal_43 : decode cX6_seal 43 = .ok (.iload_n 1, 1) := by decide +kernel
theorem dX6_seal_44 : decode cX6_seal 44 = .ok (.iaload, 1) := by decide +kernel
theorem dX6_seal_45 : decode cX6_seal 45 = .ok (.ireturn, 1) := by decide +kernel
set_option maxRecDepth 20000 in
theorem ggX6_weighs_X6_isValue : GoodIn wsX6_weighs wsX6_isValue := goodIn_r _ [4] (by decide +kernel) (by decide +kernel)
set_option maxRecDepth 20000 in
theorem gX6_weighs_X6_isValue : GoodIn wsX6_weighs (va_wsS RX6 38 yX6_isValue wsX6_isValue) := goodIn_app (goodIn_of _ (by decide +kernel)) ggX6_weighs_X6_isValue
set_option maxRecDepth 20000 in
theorem ggX6_weighs_X6_isMember : GoodIn wsX6_weighs wsX6_isMember := goodIn_r _ [7] (by decide +kernel) (by decide +kernel)
set_option maxRecDepth 20000 in
theorem gX6_weighs_X6_isMember : GoodIn wsX6_weighs (va_wsS RX6 34 yX6_isMember wsX6_isMember) := goodIn_app (goodIn_of _ (by decide +kernel)) ggX6_weighs_X6_isMember
set_option maxRecDepth 20000 in
theorem ggX6_weighs_X4_has : GoodIn wsX6_weighs wsX4_has := goodIn_r _ [11] (by decide +kernel) (by decide +kernel)
set_option maxRecDepth 20000 in
theorem gX6_weighs_X4_has : GoodIn wsX6_weighs (va_wsS RX6 96 yX4_has wsX4_has) := goodIn_app (goodIn_of _ (by decide +kernel)) ggX6_weighs_X4_has
set_option maxRecDepth 20000 in
theorem ggX6_weighs_X5_weight : GoodIn wsX6_weighs wsX5_weight := goodIn_r _ [15, 16, 9, 10, 11, 17, 18, 14, 19, 20, 21, 22, 23, 24, 25] (by decide +kernel) (by decide +kernel)
set_option maxRecDepth 20000 in
theorem gX6_weighs_X5_weight : GoodIn wsX6_weighs (va_wsS RX6 102 yX5_weight wsX5_weight) := goodIn_app (goodIn_of _ (by decide +kernel)) ggX6_weighs_X5_weight
theorem dX6_weighs_0 : decode cX6_weighs 0 = .ok (.iload_n 3, 1) := by decide +kernel
theorem dX6_weighs_1 : decode cX6_weighs 1 = .ok (.invokestatic 38, 3) := by decide +kernel
theorem dX6_weighs_4 : decode cX6_weighs 4 = .ok (.ifCond .eq 11, 3) := by decide +kernel
theorem dX6_weighs_7 : decode cX6_weighs 7 = .ok (.iload_n 2, 1) := by decide +kernel
theorem dX6_weighs_8 : decode cX6_weighs 8 = .ok (.sipush (-255), 3) := by decide +kernel
theorem dX6_weighs_11 : decode cX6_weighs 11 = .ok (.iand, 1) := by decide +kernel
theorem dX6_weighs_12 : decode cX6_weighs 12 = .ok (.ifCond .eq 6, 3) := by decide +kernel
theorem dX6_weighs_15 : decode cX6_weighs 15 = .ok (.bipush (-2), 2) := by decide +kernel
theorem dX6_weighs_17 : decode cX6_weighs 17 = .ok (.ireturn, 1) := by decide +kernel
theorem dX6_weighs_18 : decode cX6_weighs 18 = .ok (.iload_n 1, 1) := by decide +kernel
theorem dX6_weighs_19 : decode cX6_weighs 19 = .ok (.invokestatic 34, 3) := by decide +kernel
theorem dX6_weighs_22 : decode cX6_weighs 22 = .ok (.ifCond .eq 11, 3) := by decide +kernel
theorem dX6_weighs_25 : decode cX6_weighs 25 = .ok (.iload_n 2, 1) := by decide +kernel
theorem dX6_weighs_26 : decode cX6_weighs 26 = .ok (.iload_n 1, 1) := by decide +kernel
theorem dX6_weighs_27 : decode cX6_weighs 27 = .ok (.invokestatic 96, 3) := by decide +kernel
theorem dX6_weighs_30 : decode cX6_weighs 30 = .ok (.ifCond .ne 5, 3) := by decide +kernel
theorem dX6_weighs_33 : decode cX6_weighs 33 = .ok (.iconst (-1), 1) := by decide +kernel
theorem dX6_weighs_34 : decode cX6_weighs 34 = .ok (.ireturn, 1) := by decide +kernel
theorem dX6_weighs_35 : decode cX6_weighs 35 = .ok (.iload_n 1, 1) := by decide +kernel
theorem dX6_weighs_36 : decode cX6_weighs 36 = .ok (.iload_n 2, 1) := by decide +kernel
theorem dX6_weighs_37 : decode cX6_weighs 37 = .ok (.iload_n 3, 1) := by decide +kernel
theorem dX6_weighs_38 : decode cX6_weighs 38 = .ok (.invokestatic 102, 3) := by decide +kernel
theorem dX6_weighs_41 : decode cX6_weighs 41 = .ok (.ireturn, 1) := by decide +kernel
theorem dX6_loot_0 : decode cX6_loot 0 = .ok (.iload_n 2, 1) := by decide +kernel
theorem dX6_loot_1 : decode cX6_loot 1 = .ok (.ifCond .lt 8, 3) := by decide +kernel
theorem dX6_loot_4 : decode cX6_loot 4 = .ok (.iload_n 2, 1) := by decide +kernel
theorem dX6_loot_5 : decode cX6_loot 5 = .ok (.iconst 2, 1) := by decide +kernel
theorem dX6_loot_6 : decode cX6_loot 6 = .ok (.if_icmp .le 6, 3) := by decide +kernel
theorem dX6_loot_9 : decode cX6_loot 9 = .ok (.bipush (-2), 2) := by decide +kernel
theorem dX6_loot_11 : decode cX6_loot 11 = .ok (.ireturn, 1) := by decide +kernel
theorem dX6_loot_12 : decode cX6_loot 12 = .ok (.aload_n 0, 1) := by decide +kernel
theorem dX6_loot_13 : decode cX6_loot 13 = .ok (.getfield 27, 3) := by decide +kernel
theorem dX6_loot_16 : decode cX6_loot 16 = .ok (.getfield 106, 3) := by decide +kernel
theorem dX6_loot_19 : decode cX6_loot 19 = .ok (.astore_n 3, 1) := by decide +kernel
theorem dX6_loot_20 : decode cX6_loot 20 = .ok (.iload_n 1, 1) := by decide +kernel
theorem dX6_loot_21 : decode cX6_loot 21 = .ok (.ifCond .lt 17, 3) := by decide +kernel
theorem dX6_loot_24 : decode cX6_loot 24 = .ok (.iload_n 1, 1) := by decide +kernel
theorem dX6_loot_25 : decode cX6_loot 25 = .ok (.aload_n 3, 1) := by decide +kernel
theorem dX6_loot_26 : decode cX6_loot 26 = .ok (.getfield 110, 3) := by decide +kernel
theorem dX6_loot_29 : decode cX6_loot 29 = .ok (.if_icmp .ge 9, 3) := by decide +kernel
theorem dX6_loot_32 : decode cX6_loot 32 = .ok (.iload_n 1, 1) := by decide +kernel
theorem dX6_loot_33 : decode cX6_loot 33 = .ok (.bipush 24, 2) := by decide +kernel
theorem dX6_loot_35 : decode cX6_loot 35 = .ok (.if_icmp .lt 6, 3) := by decide +kernel
theorem dX6_loot_38 : decode cX6_loot 38 = .ok (.bipush (-6), 2) := by decide +kernel
theorem dX6_loot_40 : decode cX6_loot 40 = .ok (.ireturn, 1) := by decide +kernel
theorem dX6_loot_41 : decode cX6_loot 41 = .ok (.iload_n 2, 1) := by decide +kernel
theorem dX6_loot_42 : decode cX6_loot 42 = .ok (.ifCond .ne 10, 3) := by decide +kernel
theorem dX6_loot_45 : decode cX6_loot 45 = .ok (.aload_n 3, 1) := by decide +kernel
theorem dX6_loot_46 : decode cX6_loot 46 = .ok (.getfield 115, 3) := by decide +kernel
theorem dX6_loot_49 : decode cX6_loot 49 = .ok (.iload_n 1, 1) := by decide +kernel
theorem dX6_loot_50 : decode cX6_loot 50 = .ok (.iaload, 1) := by decide +kernel
theorem dX6_loot_51 : decode cX6_loot 51 = .ok (.ireturn, 1) := by decide +kernel
theorem dX6_loot_52 : decode cX6_loot 52 = .ok (.iload_n 2, 1) := by decide +kernel
theorem dX6_loot_53 : decode cX6_loot 53 = .ok (.iconst 1, 1) := by decide +kernel
theorem dX6_loot_54 : decode cX6_loot 54 = .ok (.if_icmp .ne 12, 3) := by decide +kernel
theorem dX6_loot_57 : decode cX6_loot 57 = .ok (.aload_n 3, 1) := by decide +kernel
theorem dX6_loot_58 : decode cX6_loot 58 = .ok (.getfield 118, 3) := by decide +kernel
theorem dX6_loot_61 : decode cX6_loot 61 = .ok (.iload_n 1, 1) := by decide +kernel
theorem dX6_loot_62 : decode cX6_loot 62 = .ok (.iaload, 1) := by decide +kernel
theorem dX6_loot_63 : decode cX6_loot 63 = .ok (.goto 9, 3) := by decide +kernel
theorem dX6_loot_66 : decode cX6_loot 66 = .ok (.aload_n 3, 1) := by decide +kernel
theorem dX6_loot_67 : decode cX6_loot 67 = .ok (.getfield 121, 3) := by decide +kernel
theorem dX6_loot_70 : decode cX6_loot 70 = .ok (.iload_n 1, 1) := by decide +kernel
theorem dX6_loot_71 : decode cX6_loot 71 = .ok (.iaload, 1) := by decide +kernel
theorem dX6_loot_72 : decode cX6_loot 72 = .ok (.ireturn, 1) := by decide +kernel
set_option maxRecDepth 20000 in
theorem ggX6_worlds_X6_isValue : GoodIn wsX6_worlds wsX6_isValue := goodIn_r _ [6] (by decide +kernel) (by decide +kernel)
set_option maxRecDepth 20000 in
theorem gX6_worlds_X6_isValue : GoodIn wsX6_worlds (va_wsS RX6 38 yX6_isValue wsX6_isValue) := goodIn_app (goodIn_of _ (by decide +kernel)) ggX6_worlds_X6_isValue
set_option maxRecDepth 20000 in
theorem ggX6_worlds_X0_wasEpoch : GoodIn wsX6_worlds wsX0_wasEpoch := goodIn_r _ [11, 12, 85, 86, 87, 88, 89, 90, 91, 92, 93, 94, 95, 96] (by decide +kernel) (by decide +kernel)
set_option maxRecDepth 20000 in
theorem gX6_worlds_X0_wasEpoch : GoodIn wsX6_worlds (wsV RX6 124 RX0 yX0_wasEpoch wsX0_wasEpoch) := goodIn_app (goodIn_of _ (by decide +kernel)) ggX6_worlds_X0_wasEpoch
set_option maxRecDepth 20000 in
theorem ggX6_worlds_X2_worldsLeft : GoodIn wsX6_worlds wsX2_worldsLeft := goodIn_r _ [17, 18, 19, 20, 21, 10, 22, 23, 24, 8, 9, 11, 12, 25, 26, 27, 28, 29, 30, 31, 32, 33, 34, 35, 36, 37, 38, 39, 40, 41, 42, 43, 44, 45, 46, 16, 47, 48, 49, 50, 51, 52, 53, 54, 55, 56, 57, 58, 59, 60, 61, 62, 63, 64, 65, 66, 67, 68, 69, 70, 71, 72, 73, 74, 75, 76, 77, 78, 79, 80, 97, 98, 99, 100, 101, 102, 85, 86, 87, 88, 89, 90, 91, 92, 93, 94, 95, 96, 103, 104, 105, 106] (by decide +kernel) (by decide +kernel)
set_option maxRecDepth 20000 in
theorem gX6_worlds_X2_worldsLeft : GoodIn wsX6_worlds (wsV RX6 127 RX2 yX2_worldsLeft wsX2_worldsLeft) := goodIn_app (goodIn_of _ (by decide +kernel)) ggX6_worlds_X2_worldsLeft
theorem dX6_worlds_0 : decode cX6_worlds 0 = .ok (.iload_n 2, 1) := by decide +kernel
theorem dX6_worlds_1 : decode cX6_worlds 1 = .ok (.invokestatic 38, 3) := by decide +kernel
theorem dX6_worlds_4 : decode cX6_worlds 4 = .ok (.ifCond .eq 14, 3) := by decide +kernel
theorem dX6_worlds_7 : decode cX6_worlds 7 = .ok (.aload_n 0, 1) := by decide +kernel
theorem dX6_worlds_8 : decode cX6_worlds 8 = .ok (.getfield 27, 3) := by decide +kernel
theorem dX6_worlds_11 : decode cX6_worlds 11 = .ok (.iload_n 1, 1) := by decide +kernel
theorem dX6_worlds_12 : decode cX6_worlds 12 = .ok (.invokevirtual 124, 3) := by decide +kernel
theorem dX6_worlds_15 : decode cX6_worlds 15 = .ok (.ifCond .ne 6, 3) := by decide +kernel
theorem dX6_worlds_18 : decode cX6_worlds 18 = .ok (.bipush (-2), 2) := by decide +kernel
theorem dX6_worlds_20 : decode cX6_worlds 20 = .ok (.ireturn, 1) := by decide +kernel
theorem dX6_worlds_21 : decode cX6_worlds 21 = .ok (.aload_n 0, 1) := by decide +kernel
theorem dX6_worlds_22 : decode cX6_worlds 22 = .ok (.getfield 19, 3) := by decide +kernel
theorem dX6_worlds_25 : decode cX6_worlds 25 = .ok (.iload_n 1, 1) := by decide +kernel
theorem dX6_worlds_26 : decode cX6_worlds 26 = .ok (.iload_n 2, 1) := by decide +kernel
theorem dX6_worlds_27 : decode cX6_worlds 27 = .ok (.invokevirtual 127, 3) := by decide +kernel
theorem dX6_worlds_30 : decode cX6_worlds 30 = .ok (.ireturn, 1) := by decide +kernel
set_option maxRecDepth 20000 in
theorem ggX6_thief_X0_isDealt : GoodIn wsX6_thief wsX0_isDealt := goodIn_r _ [7, 8, 88, 89, 90, 91, 92, 93, 94, 95, 96, 97, 98, 99] (by decide +kernel) (by decide +kernel)
set_option maxRecDepth 20000 in
theorem gX6_thief_X0_isDealt : GoodIn wsX6_thief (wsV RX6 80 RX0 yX0_isDealt wsX0_isDealt) := goodIn_app (goodIn_of _ (by decide +kernel)) ggX6_thief_X0_isDealt
set_option maxRecDepth 20000 in
theorem ggX6_thief_X2_opened : GoodIn wsX6_thief wsX2_opened := goodIn_r _ [13, 14, 15, 16, 17, 18, 19, 20, 21, 22, 23, 24, 25, 26, 27, 28, 29, 30, 31, 32, 33, 34, 35, 36, 37, 38, 39, 40, 41, 42, 43, 44, 45, 46, 47, 48, 49, 50, 51, 52, 53, 54, 55, 56, 57, 58, 59, 60, 61, 62, 63, 64, 65, 66, 100, 101, 102, 103, 104, 105, 88, 89, 90, 91, 92, 93, 94, 95, 96, 97, 98, 99, 106, 107, 108, 109] (by decide +kernel) (by decide +kernel)
set_option maxRecDepth 20000 in
theorem gX6_thief_X2_opened : GoodIn wsX6_thief (wsV RX6 130 RX2 yX2_opened wsX2_opened) := goodIn_app (goodIn_of _ (by decide +kernel)) ggX6_thief_X2_opened
set_option maxRecDepth 20000 in
theorem ggX6_thief_X0_firstLostEpoch : GoodIn wsX6_thief wsX0_firstLostEpoch := goodIn_r _ [70, 71, 72, 17, 18, 19, 20, 21, 22, 23, 24, 25, 26, 27, 73, 29, 30, 31, 32, 33, 34, 74, 75, 76, 6, 77, 78, 79, 80, 81, 82, 8, 88, 89, 90, 91, 92, 93, 94, 95, 96, 97, 98, 99, 106, 107, 108, 109] (by decide +kernel) (by decide +kernel)
set_option maxRecDepth 20000 in
theorem gX6_thief_X0_firstLostEpoch : GoodIn wsX6_thief (wsV RX6 133 RX0 yX0_firstLostEpoch wsX0_firstLostEpoch) := goodIn_app (goodIn_of _ (by decide +kernel)) ggX6_thief_X0_firstLostEpoch
set_option maxRecDepth 20000 in
theorem ggX6_thief_X0_thresholdOf : GoodIn wsX6_thief wsX0_thresholdOf := goodIn_r _ [77, 78, 79, 80, 81, 6, 82, 8, 88, 89, 90, 91, 92, 93, 94, 95, 96, 97, 98, 99] (by decide +kernel) (by decide +kernel)
set_option maxRecDepth 20000 in
theorem gX6_thief_X0_thresholdOf : GoodIn wsX6_thief (wsV RX6 136 RX0 yX0_thresholdOf wsX0_thresholdOf) := goodIn_app (goodIn_of _ (by decide +kernel)) ggX6_thief_X0_thresholdOf
theorem dX6_thief_0 : decode cX6_thief 0 = .ok (.iload_n 1, 1) := by decide +kernel
theorem dX6_thief_1 : decode cX6_thief 1 = .ok (.ifCond .lt 8, 3) := by decide +kernel
theorem dX6_thief_4 : decode cX6_thief 4 = .ok (.iload_n 1, 1) := by decide +kernel
theorem dX6_thief_5 : decode cX6_thief 5 = .ok (.iconst 2, 1) := by decide +kernel
theorem dX6_thief_6 : decode cX6_thief 6 = .ok (.if_icmp .le 6, 3) := by decide +kernel
theorem dX6_thief_9 : decode cX6_thief 9 = .ok (.bipush (-2), 2) := by decide +kernel
theorem dX6_thief_11 : decode cX6_thief 11 = .ok (.ireturn, 1) := by decide +kernel
theorem dX6_thief_12 : decode cX6_thief 12 = .ok (.aload_n 0, 1) := by decide +kernel
theorem dX6_thief_13 : decode cX6_thief 13 = .ok (.getfield 27, 3) := by decide +kernel
theorem dX6_thief_16 : decode cX6_thief 16 = .ok (.invokevirtual 80, 3) := by decide +kernel
theorem dX6_thief_19 : decode cX6_thief 19 = .ok (.ifCond .ne 6, 3) := by decide +kernel
theorem dX6_thief_22 : decode cX6_thief 22 = .ok (.bipush (-3), 2) := by decide +kernel
theorem dX6_thief_24 : decode cX6_thief 24 = .ok (.ireturn, 1) := by decide +kernel
theorem dX6_thief_25 : decode cX6_thief 25 = .ok (.iload_n 1, 1) := by decide +kernel
theorem dX6_thief_26 : decode cX6_thief 26 = .ok (.iconst 2, 1) := by decide +kernel
theorem dX6_thief_27 : decode cX6_thief 27 = .ok (.if_icmp .ne 19, 3) := by decide +kernel
theorem dX6_thief_30 : decode cX6_thief 30 = .ok (.aload_n 0, 1) := by decide +kernel
theorem dX6_thief_31 : decode cX6_thief 31 = .ok (.getfield 19, 3) := by decide +kernel
theorem dX6_thief_34 : decode cX6_thief 34 = .ok (.iconst (-1), 1) := by decide +kernel
theorem dX6_thief_35 : decode cX6_thief 35 = .ok (.aload_n 0, 1) := by decide +kernel
theorem dX6_thief_36 : decode cX6_thief 36 = .ok (.getfield 27, 3) := by decide +kernel
theorem dX6_thief_39 : decode cX6_thief 39 = .ok (.getfield 87, 3) := by decide +kernel
theorem dX6_thief_42 : decode cX6_thief 42 = .ok (.invokevirtual 130, 3) := by decide +kernel
theorem dX6_thief_45 : decode cX6_thief 45 = .ok (.ireturn, 1) := by decide +kernel
theorem dX6_thief_46 : decode cX6_thief 46 = .ok (.aload_n 0, 1) := by decide +kernel
theorem dX6_thief_47 : decode cX6_thief 47 = .ok (.getfield 27, 3) := by decide +kernel
theorem dX6_thief_50 : decode cX6_thief 50 = .ok (.invokevirtual 133, 3) := by decide +kernel
theorem dX6_thief_53 : decode cX6_thief 53 = .ok (.istore_n 2, 1) := by decide +kernel
theorem dX6_thief_54 : decode cX6_thief 54 = .ok (.iload_n 1, 1) := by decide +kernel
theorem dX6_thief_55 : decode cX6_thief 55 = .ok (.ifCond .eq 9, 3) := by decide +kernel
theorem dX6_thief_58 : decode cX6_thief 58 = .ok (.iload_n 2, 1) := by decide +kernel
theorem dX6_thief_59 : decode cX6_thief 59 = .ok (.bipush (-6), 2) := by decide +kernel
theorem dX6_thief_61 : decode cX6_thief 61 = .ok (.if_icmp .ne 5, 3) := by decide +kernel
theorem dX6_thief_64 : decode cX6_thief 64 = .ok (.iload_n 2, 1) := by decide +kernel
theorem dX6_thief_65 : decode cX6_thief 65 = .ok (.ireturn, 1) := by decide +kernel
theorem dX6_thief_66 : decode cX6_thief 66 = .ok (.aload_n 0, 1) := by decide +kernel
theorem dX6_thief_67 : decode cX6_thief 67 = .ok (.getfield 19, 3) := by decide +kernel
theorem dX6_thief_70 : decode cX6_thief 70 = .ok (.iload_n 2, 1) := by decide +kernel
theorem dX6_thief_71 : decode cX6_thief 71 = .ok (.aload_n 0, 1) := by decide +kernel
theorem dX6_thief_72 : decode cX6_thief 72 = .ok (.getfield 27, 3) := by decide +kernel
theorem dX6_thief_75 : decode cX6_thief 75 = .ok (.iload_n 2, 1) := by decide +kernel
theorem dX6_thief_76 : decode cX6_thief 76 = .ok (.invokevirtual 136, 3) := by decide +kernel
theorem dX6_thief_79 : decode cX6_thief 79 = .ok (.invokevirtual 130, 3) := by decide +kernel
theorem dX6_thief_82 : decode cX6_thief 82 = .ok (.ireturn, 1) := by decide +kernel
set_option maxRecDepth 20000 in
theorem ggX6_image_X0_init : GoodIn wsX6_image wsX0_init := goodIn_r _ [8, 9, 10, 11, 12, 13, 14, 15, 16, 17, 18, 19, 20, 21, 22, 23, 24, 25, 26, 27, 28, 29, 30, 31, 32, 33, 34, 35, 53, 54, 55, 56, 57, 58, 59, 60, 61, 62, 63, 64, 65, 66, 67, 68] (by decide +kernel) (by decide +kernel)
set_option maxRecDepth 20000 in
theorem gX6_image_X0_init : GoodIn wsX6_image (wsX0_init) := ggX6_image_X0_init
set_option maxRecDepth 20000 in
theorem ggX6_image_X0_copyFrom : GoodIn wsX6_image wsX0_copyFrom := goodIn_r _ [39, 13, 40, 41, 42, 43, 14, 15, 16, 17, 21, 22, 23, 24, 25, 26, 27, 44, 45, 46, 20, 47, 32, 48, 33, 34, 35, 53, 54, 55, 56, 57, 58, 59, 60, 61, 62, 63, 64, 65, 66, 67, 68] (by decide +kernel) (by decide +kernel)
set_option maxRecDepth 20000 in
theorem gX6_image_X0_copyFrom : GoodIn wsX6_image (wsV RX6 140 RX0 yX0_copyFrom wsX0_copyFrom) := goodIn_app (goodIn_of _ (by decide +kernel)) ggX6_image_X0_copyFrom
theorem dX6_image_0 : decode cX6_image 0 = .ok (.iload_n 1, 1) := by decide +kernel
theorem dX6_image_1 : decode cX6_image 1 = .ok (.ifCond .lt 8, 3) := by decide +kernel
theorem dX6_image_4 : decode cX6_image 4 = .ok (.iload_n 1, 1) := by decide +kernel
theorem dX6_image_5 : decode cX6_image 5 = .ok (.iconst 2, 1) := by decide +kernel
theorem dX6_image_6 : decode cX6_image 6 = .ok (.if_icmp .lt 6, 3) := by decide +kernel
theorem dX6_image_9 : decode cX6_image 9 = .ok (.bipush (-2), 2) := by decide +kernel
theorem dX6_image_11 : decode cX6_image 11 = .ok (.ireturn, 1) := by decide +kernel
theorem dX6_image_12 : decode cX6_image 12 = .ok (.aload_n 0, 1) := by decide +kernel
theorem dX6_image_13 : decode cX6_image 13 = .ok (.getfield 30, 3) := by decide +kernel
theorem dX6_image_16 : decode cX6_image 16 = .ok (.iload_n 1, 1) := by decide +kernel
theorem dX6_image_17 : decode cX6_image 17 = .ok (.aaload, 1) := by decide +kernel
theorem dX6_image_18 : decode cX6_image 18 = .ok (.astore_n 2, 1) := by decide +kernel
theorem dX6_image_19 : decode cX6_image 19 = .ok (.aload_n 2, 1) := by decide +kernel
theorem dX6_image_20 : decode cX6_image 20 = .ok (.ifnonnull 18, 3) := by decide +kernel
theorem dX6_image_23 : decode cX6_image 23 = .ok (.new 28, 3) := by decide +kernel
theorem dX6_image_26 : decode cX6_image 26 = .ok (.dup, 1) := by decide +kernel
theorem dX6_image_27 : decode cX6_image 27 = .ok (.invokespecial 139, 3) := by decide +kernel
theorem dX6_image_30 : decode cX6_image 30 = .ok (.astore_n 2, 1) := by decide +kernel
theorem dX6_image_31 : decode cX6_image 31 = .ok (.aload_n 0, 1) := by decide +kernel
theorem dX6_image_32 : decode cX6_image 32 = .ok (.getfield 30, 3) := by decide +kernel
theorem dX6_image_35 : decode cX6_image 35 = .ok (.iload_n 1, 1) := by decide +kernel
theorem dX6_image_36 : decode cX6_image 36 = .ok (.aload_n 2, 1) := by decide +kernel
theorem dX6_image_37 : decode cX6_image 37 = .ok (.aastore, 1) := by decide +kernel
theorem dX6_image_38 : decode cX6_image 38 = .ok (.aload_n 2, 1) := by decide +kernel
theorem dX6_image_39 : decode cX6_image 39 = .ok (.aload_n 0, 1) := by decide +kernel
theorem dX6_image_40 : decode cX6_image 40 = .ok (.getfield 27, 3) := by decide +kernel
theorem dX6_image_43 : decode cX6_image 43 = .ok (.invokevirtual 140, 3) := by decide +kernel
theorem dX6_image_46 : decode cX6_image 46 = .ok (.iconst 1, 1) := by decide +kernel
theorem dX6_image_47 : decode cX6_image 47 = .ok (.ireturn, 1) := by decide +kernel
set_option maxRecDepth 20000 in
theorem ggX6_restore_X0_copyFrom : GoodIn wsX6_restore wsX0_copyFrom := goodIn_r _ [7, 8, 9, 10, 11, 12, 13, 14, 15, 16, 17, 18, 19, 20, 21, 22, 23, 24, 25, 26, 27, 28, 29, 30, 31, 32, 33, 38, 39, 40, 41, 42, 43, 44, 45, 46, 47, 48, 49, 50, 51, 52, 53] (by decide +kernel) (by decide +kernel)
set_option maxRecDepth 20000 in
theorem gX6_restore_X0_copyFrom : GoodIn wsX6_restore (wsV RX6 140 RX0 yX0_copyFrom wsX0_copyFrom) := goodIn_app (goodIn_of _ (by decide +kernel)) ggX6_restore_X0_copyFrom
theorem dX6_restore_0 : decode cX6_restore 0 = .ok (.iload_n 1, 1) := by decide +kernel
theorem dX6_restore_1 : decode cX6_restore 1 = .ok (.ifCond .lt 8, 3) := by decide +kernel
theorem dX6_restore_4 : decode cX6_restore 4 = .ok (.iload_n 1, 1) := by decide +kernel
theorem dX6_restore_5 : decode cX6_restore 5 = .ok (.iconst 2, 1) := by decide +kernel
theorem dX6_restore_6 : decode cX6_restore 6 = .ok (.if_icmp .lt 6, 3) := by decide +kernel
theorem dX6_restore_9 : decode cX6_restore 9 = .ok (.bipush (-2), 2) := by decide +kernel
theorem dX6_restore_11 : decode cX6_restore 11 = .ok (.ireturn, 1) := by decide +kernel
theorem dX6_restore_12 : decode cX6_restore 12 = .ok (.aload_n 0, 1) := by decide +kernel
theorem dX6_restore_13 : decode cX6_restore 13 = .ok (.getfield 30, 3) := by decide +kernel
theorem dX6_restore_16 : decode cX6_restore 16 = .ok (.iload_n 1, 1) := by decide +kernel
theorem dX6_restore_17 : decode cX6_restore 17 = .ok (.aaload, 1) := by decide +kernel
theorem dX6_restore_18 : decode cX6_restore 18 = .ok (.astore_n 2, 1) := by decide +kernel
theorem dX6_restore_19 : decode cX6_restore 19 = .ok (.aload_n 2, 1) := by decide +kernel
theorem dX6_restore_20 : decode cX6_restore 20 = .ok (.ifnonnull 6, 3) := by decide +kernel
theorem dX6_restore_23 : decode cX6_restore 23 = .ok (.bipush (-5), 2) := by decide +kernel
theorem dX6_restore_25 : decode cX6_restore 25 = .ok (.ireturn, 1) := by decide +kernel
theorem dX6_restore_26 : decode cX6_restore 26 = .ok (.aload_n 0, 1) := by decide +kernel
theorem dX6_restore_27 : decode cX6_restore 27 = .ok (.getfield 27, 3) := by decide +kernel
theorem dX6_restore_30 : decode cX6_restore 30 = .ok (.aload_n 2, 1) := by decide +kernel
theorem dX6_restore_31 : decode cX6_restore 31 = .ok (.invokevirtual 140, 3) := by decide +kernel
theorem dX6_restore_34 : decode cX6_restore 34 = .ok (.iconst 1, 1) := by decide +kernel
theorem dX6_restore_35 : decode cX6_restore 35 = .ok (.ireturn, 1) := by decide +kernel
set_option maxRecDepth 20000 in
theorem ggX6_count_X0_isDealt : GoodIn wsX6_count wsX0_isDealt := goodIn_r _ [7, 8, 40, 41, 42, 43, 44, 45, 46, 47, 48, 49, 50, 51] (by decide +kernel) (by decide +kernel)
set_option maxRecDepth 20000 in
theorem gX6_count_X0_isDealt : GoodIn wsX6_count (wsV RX6 80 RX0 yX0_isDealt wsX0_isDealt) := goodIn_app (goodIn_of _ (by decide +kernel)) ggX6_count_X0_isDealt
set_option maxRecDepth 20000 in
theorem ggX6_count_J6_bitCount_0f7a4 : GoodIn wsX6_count wsJ6_bitCount_0f7a4 := goodIn_r _ [12, 13, 14, 15] (by decide +kernel) (by decide +kernel)
set_option maxRecDepth 20000 in
theorem gX6_count_J6_bitCount_0f7a4 : GoodIn wsX6_count (va_wsS RX6 150 yJ6_bitCount_0f7a4 wsJ6_bitCount_0f7a4) := goodIn_app (goodIn_of _ (by decide +kernel)) ggX6_count_J6_bitCount_0f7a4
set_option maxRecDepth 20000 in
theorem ggX6_count_X6_keptImages : GoodIn wsX6_count wsX6_keptImages := goodIn_r _ [20, 21, 22, 23, 24, 25, 36, 37, 38, 39] (by decide +kernel) (by decide +kernel)
set_option maxRecDepth 20000 in
theorem gX6_count_X6_keptImages : GoodIn wsX6_count (wsV RX6 155 RX6 yX6_keptImages wsX6_keptImages) := goodIn_app (goodIn_of _ (by decide +kernel)) ggX6_count_X6_keptImages
set_option maxRecDepth 20000 in
theorem ggX6_count_X0_wasEpoch : GoodIn wsX6_count wsX0_wasEpoch := goodIn_r _ [29, 8, 40, 41, 42, 43, 44, 45, 46, 47, 48, 49, 50, 51] (by decide +kernel) (by decide +kernel)
set_option maxRecDepth 20000 in
theorem gX6_count_X0_wasEpoch : GoodIn wsX6_count (wsV RX6 124 RX0 yX0_wasEpoch wsX0_wasEpoch) := goodIn_app (goodIn_of _ (by decide +kernel)) ggX6_count_X0_wasEpoch
set_option maxRecDepth 20000 in
theorem ggX6_count_X0_thresholdOf : GoodIn wsX6_count wsX0_thresholdOf := goodIn_r _ [33, 34, 35, 27, 28, 6, 29, 8, 40, 41, 42, 43, 44, 45, 46, 47, 48, 49, 50, 51] (by decide +kernel) (by decide +kernel)
set_option maxRecDepth 20000 in
theorem gX6_count_X0_thresholdOf : GoodIn wsX6_count (wsV RX6 136 RX0 yX0_thresholdOf wsX0_thresholdOf) := goodIn_app (goodIn_of _ (by decide +kernel)) ggX6_count_X0_thresholdOf
theorem dX6_count_0 : decode cX6_count 0 = .ok (.iload_n 1, 1) := by decide +kernel
theorem dX6_count_1 : decode cX6_count 1 = .ok (.tableswitch 144 0 7 #[47, 70, 93, 104, 112, 123, 131, 139], 47) := by decide +kernel
theorem dX6_count_48 : decode cX6_count 48 = .ok (.aload_n 0, 1) := by decide +kernel
theorem dX6_count_49 : decode cX6_count 49 = .ok (.getfield 27, 3) := by decide +kernel
theorem dX6_count_52 : decode cX6_count 52 = .ok (.invokevirtual 80, 3) := by decide +kernel
theorem dX6_count_55 : decode cX6_count 55 = .ok (.ifCond .eq 13, 3) := by decide +kernel
theorem dX6_count_58 : decode cX6_count 58 = .ok (.aload_n 0, 1) := by decide +kernel
theorem dX6_count_59 : decode cX6_count 59 = .ok (.getfield 27, 3) := by decide +kernel
theorem dX6_count_62 : decode cX6_count 62 = .ok (.getfield 87, 3) := by decide +kernel
end
section
theorem dX6_count_65 : decode cX6_count 65 = .ok (.goto 5, 3) := by decide +kernel
theorem dX6_count_68 : decode cX6_count 68 = .ok (.bipush (-6), 2) := by decide +kernel
theorem dX6_count_70 : decode cX6_count 70 = .ok (.ireturn, 1) := by decide +kernel
theorem dX6_count_71 : decode cX6_count 71 = .ok (.aload_n 0, 1) := by decide +kernel
theorem dX6_count_72 : decode cX6_count 72 = .ok (.getfield 27, 3) := by decide +kernel
theorem dX6_count_75 : decode cX6_count 75 = .ok (.invokevirtual 80, 3) := by decide +kernel
theorem dX6_count_78 : decode cX6_count 78 = .ok (.ifCond .eq 13, 3) := by decide +kernel
theorem dX6_count_81 : decode cX6_count 81 = .ok (.aload_n 0, 1) := by decide +kernel
theorem dX6_count_82 : decode cX6_count 82 = .ok (.getfield 27, 3) := by decide +kernel
theorem dX6_count_85 : decode cX6_count 85 = .ok (.getfield 144, 3) := by decide +kernel
theorem dX6_count_88 : decode cX6_count 88 = .ok (.goto 5, 3) := by decide +kernel
theorem dX6_count_91 : decode cX6_count 91 = .ok (.bipush (-6), 2) := by decide +kernel
theorem dX6_count_93 : decode cX6_count 93 = .ok (.ireturn, 1) := by decide +kernel
theorem dX6_count_94 : decode cX6_count 94 = .ok (.aload_n 0, 1) := by decide +kernel
theorem dX6_count_95 : decode cX6_count 95 = .ok (.getfield 27, 3) := by decide +kernel
theorem dX6_count_98 : decode cX6_count 98 = .ok (.getfield 147, 3) := by decide +kernel
theorem dX6_count_101 : decode cX6_count 101 = .ok (.invokestatic 150, 3) := by decide +kernel
theorem dX6_count_104 : decode cX6_count 104 = .ok (.ireturn, 1) := by decide +kernel
theorem dX6_count_105 : decode cX6_count 105 = .ok (.aload_n 0, 1) := by decide +kernel
theorem dX6_count_106 : decode cX6_count 106 = .ok (.getfield 27, 3) := by decide +kernel
theorem dX6_count_109 : decode cX6_count 109 = .ok (.getfield 147, 3) := by decide +kernel
theorem dX6_count_112 : decode cX6_count 112 = .ok (.ireturn, 1) := by decide +kernel
theorem dX6_count_113 : decode cX6_count 113 = .ok (.aload_n 0, 1) := by decide +kernel
theorem dX6_count_114 : decode cX6_count 114 = .ok (.getfield 27, 3) := by decide +kernel
theorem dX6_count_117 : decode cX6_count 117 = .ok (.getfield 106, 3) := by decide +kernel
theorem dX6_count_120 : decode cX6_count 120 = .ok (.getfield 110, 3) := by decide +kernel
theorem dX6_count_123 : decode cX6_count 123 = .ok (.ireturn, 1) := by decide +kernel
theorem dX6_count_124 : decode cX6_count 124 = .ok (.aload_n 0, 1) := by decide +kernel
theorem dX6_count_125 : decode cX6_count 125 = .ok (.getfield 27, 3) := by decide +kernel
theorem dX6_count_128 : decode cX6_count 128 = .ok (.getfield 71, 3) := by decide +kernel
theorem dX6_count_131 : decode cX6_count 131 = .ok (.ireturn, 1) := by decide +kernel
theorem dX6_count_132 : decode cX6_count 132 = .ok (.aload_n 0, 1) := by decide +kernel
theorem dX6_count_133 : decode cX6_count 133 = .ok (.getfield 10, 3) := by decide +kernel
theorem dX6_count_136 : decode cX6_count 136 = .ok (.getfield 59, 3) := by decide +kernel
theorem dX6_count_139 : decode cX6_count 139 = .ok (.ireturn, 1) := by decide +kernel
theorem dX6_count_140 : decode cX6_count 140 = .ok (.aload_n 0, 1) := by decide +kernel
theorem dX6_count_141 : decode cX6_count 141 = .ok (.invokevirtual 155, 3) := by decide +kernel
theorem dX6_count_144 : decode cX6_count 144 = .ok (.ireturn, 1) := by decide +kernel
theorem dX6_count_145 : decode cX6_count 145 = .ok (.iload_n 1, 1) := by decide +kernel
theorem dX6_count_146 : decode cX6_count 146 = .ok (.bipush 10, 2) := by decide +kernel
theorem dX6_count_148 : decode cX6_count 148 = .ok (.if_icmp .lt 31, 3) := by decide +kernel
theorem dX6_count_151 : decode cX6_count 151 = .ok (.aload_n 0, 1) := by decide +kernel
theorem dX6_count_152 : decode cX6_count 152 = .ok (.getfield 27, 3) := by decide +kernel
theorem dX6_count_155 : decode cX6_count 155 = .ok (.iload_n 1, 1) := by decide +kernel
theorem dX6_count_156 : decode cX6_count 156 = .ok (.bipush 10, 2) := by decide +kernel
theorem dX6_count_158 : decode cX6_count 158 = .ok (.isub, 1) := by decide +kernel
theorem dX6_count_159 : decode cX6_count 159 = .ok (.invokevirtual 124, 3) := by decide +kernel
theorem dX6_count_162 : decode cX6_count 162 = .ok (.ifCond .eq 17, 3) := by decide +kernel
theorem dX6_count_165 : decode cX6_count 165 = .ok (.aload_n 0, 1) := by decide +kernel
theorem dX6_count_166 : decode cX6_count 166 = .ok (.getfield 27, 3) := by decide +kernel
theorem dX6_count_169 : decode cX6_count 169 = .ok (.iload_n 1, 1) := by decide +kernel
theorem dX6_count_170 : decode cX6_count 170 = .ok (.bipush 10, 2) := by decide +kernel
theorem dX6_count_172 : decode cX6_count 172 = .ok (.isub, 1) := by decide +kernel
theorem dX6_count_173 : decode cX6_count 173 = .ok (.invokevirtual 136, 3) := by decide +kernel
theorem dX6_count_176 : decode cX6_count 176 = .ok (.goto 5, 3) := by decide +kernel
theorem dX6_count_179 : decode cX6_count 179 = .ok (.bipush (-2), 2) := by decide +kernel
theorem dX6_count_181 : decode cX6_count 181 = .ok (.ireturn, 1) := by decide +kernel
set_option maxRecDepth 20000 in
theorem ggX6_keptImages_X4_only : GoodIn wsX6_keptImages wsX4_only := goodIn_r _ [5] (by decide +kernel) (by decide +kernel)
set_option maxRecDepth 20000 in
theorem gX6_keptImages_X4_only : GoodIn wsX6_keptImages (va_wsS RX6 158 yX4_only wsX4_only) := goodIn_app (goodIn_of _ (by decide +kernel)) ggX6_keptImages_X4_only
theorem dX6_keptImages_0 : decode cX6_keptImages 0 = .ok (.iconst 0, 1) := by decide +kernel
theorem dX6_keptImages_1 : decode cX6_keptImages 1 = .ok (.istore_n 1, 1) := by decide +kernel
theorem dX6_keptImages_2 : decode cX6_keptImages 2 = .ok (.iconst 0, 1) := by decide +kernel
theorem dX6_keptImages_3 : decode cX6_keptImages 3 = .ok (.istore_n 2, 1) := by decide +kernel
theorem dX6_keptImages_4 : decode cX6_keptImages 4 = .ok (.iload_n 2, 1) := by decide +kernel
theorem dX6_keptImages_5 : decode cX6_keptImages 5 = .ok (.iconst 2, 1) := by decide +kernel
theorem dX6_keptImages_6 : decode cX6_keptImages 6 = .ok (.if_icmp .ge 25, 3) := by decide +kernel
theorem dX6_keptImages_9 : decode cX6_keptImages 9 = .ok (.aload_n 0, 1) := by decide +kernel
theorem dX6_keptImages_10 : decode cX6_keptImages 10 = .ok (.getfield 30, 3) := by decide +kernel
theorem dX6_keptImages_13 : decode cX6_keptImages 13 = .ok (.iload_n 2, 1) := by decide +kernel
theorem dX6_keptImages_14 : decode cX6_keptImages 14 = .ok (.aaload, 1) := by decide +kernel
theorem dX6_keptImages_15 : decode cX6_keptImages 15 = .ok (.ifnull 10, 3) := by decide +kernel
theorem dX6_keptImages_18 : decode cX6_keptImages 18 = .ok (.iload_n 1, 1) := by decide +kernel
theorem dX6_keptImages_19 : decode cX6_keptImages 19 = .ok (.iload_n 2, 1) := by decide +kernel
theorem dX6_keptImages_20 : decode cX6_keptImages 20 = .ok (.invokestatic 158, 3) := by decide +kernel
theorem dX6_keptImages_23 : decode cX6_keptImages 23 = .ok (.ior, 1) := by decide +kernel
theorem dX6_keptImages_24 : decode cX6_keptImages 24 = .ok (.istore_n 1, 1) := by decide +kernel
theorem dX6_keptImages_25 : decode cX6_keptImages 25 = .ok (.iinc 2 1, 3) := by decide +kernel
theorem dX6_keptImages_28 : decode cX6_keptImages 28 = .ok (.goto (-24), 3) := by decide +kernel
theorem dX6_keptImages_31 : decode cX6_keptImages 31 = .ok (.iload_n 1, 1) := by decide +kernel
theorem dX6_keptImages_32 : decode cX6_keptImages 32 = .ok (.ireturn, 1) := by decide +kernel
set_option maxRecDepth 20000 in
theorem ggX6_shareFacts_X4_has : GoodIn wsX6_shareFacts wsX4_has := goodIn_r _ [5] (by decide +kernel) (by decide +kernel)
set_option maxRecDepth 20000 in
theorem gX6_shareFacts_X4_has : GoodIn wsX6_shareFacts (va_wsS RX6 96 yX4_has wsX4_has) := goodIn_app (goodIn_of _ (by decide +kernel)) ggX6_shareFacts_X4_has
set_option maxRecDepth 20000 in
theorem ggX6_shareFacts_X0_tells : GoodIn wsX6_shareFacts wsX0_tells := goodIn_r _ [10, 11, 12, 13, 14, 9, 15, 16, 17, 18, 19, 20, 41, 42, 43, 44, 45, 46, 47, 48, 49, 50, 51, 52] (by decide +kernel) (by decide +kernel)
set_option maxRecDepth 20000 in
theorem gX6_shareFacts_X0_tells : GoodIn wsX6_shareFacts (wsV RX6 162 RX0 yX0_tells wsX0_tells) := goodIn_app (goodIn_of _ (by decide +kernel)) ggX6_shareFacts_X0_tells
set_option maxRecDepth 20000 in
theorem ggX6_shareFacts_X5_fitting : GoodIn wsX6_shareFacts wsX5_fitting := goodIn_r _ [23, 24, 25, 26, 27, 28, 29, 19, 30, 31, 32, 33, 34, 35, 36] (by decide +kernel) (by decide +kernel)
set_option maxRecDepth 20000 in
theorem gX6_shareFacts_X5_fitting : GoodIn wsX6_shareFacts (va_wsS RX6 90 yX5_fitting wsX5_fitting) := goodIn_app (goodIn_of _ (by decide +kernel)) ggX6_shareFacts_X5_fitting
theorem dX6_shareFacts_0 : decode cX6_shareFacts 0 = .ok (.aload_n 0, 1) := by decide +kernel
theorem dX6_shareFacts_1 : decode cX6_shareFacts 1 = .ok (.getfield 27, 3) := by decide +kernel
theorem dX6_shareFacts_4 : decode cX6_shareFacts 4 = .ok (.getfield 147, 3) := by decide +kernel
theorem dX6_shareFacts_7 : decode cX6_shareFacts 7 = .ok (.iload_n 1, 1) := by decide +kernel
theorem dX6_shareFacts_8 : decode cX6_shareFacts 8 = .ok (.invokestatic 96, 3) := by decide +kernel
theorem dX6_shareFacts_11 : decode cX6_shareFacts 11 = .ok (.ifCond .ne 6, 3) := by decide +kernel
theorem dX6_shareFacts_14 : decode cX6_shareFacts 14 = .ok (.bipush (-6), 2) := by decide +kernel
theorem dX6_shareFacts_16 : decode cX6_shareFacts 16 = .ok (.ireturn, 1) := by decide +kernel
theorem dX6_shareFacts_17 : decode cX6_shareFacts 17 = .ok (.iload_n 2, 1) := by decide +kernel
theorem dX6_shareFacts_18 : decode cX6_shareFacts 18 = .ok (.ifCond .ne 13, 3) := by decide +kernel
theorem dX6_shareFacts_21 : decode cX6_shareFacts 21 = .ok (.aload_n 0, 1) := by decide +kernel
theorem dX6_shareFacts_22 : decode cX6_shareFacts 22 = .ok (.getfield 27, 3) := by decide +kernel
theorem dX6_shareFacts_25 : decode cX6_shareFacts 25 = .ok (.getfield 161, 3) := by decide +kernel
theorem dX6_shareFacts_28 : decode cX6_shareFacts 28 = .ok (.iload_n 1, 1) := by decide +kernel
theorem dX6_shareFacts_29 : decode cX6_shareFacts 29 = .ok (.iaload, 1) := by decide +kernel
theorem dX6_shareFacts_30 : decode cX6_shareFacts 30 = .ok (.ireturn, 1) := by decide +kernel
theorem dX6_shareFacts_31 : decode cX6_shareFacts 31 = .ok (.aload_n 0, 1) := by decide +kernel
theorem dX6_shareFacts_32 : decode cX6_shareFacts 32 = .ok (.getfield 27, 3) := by decide +kernel
theorem dX6_shareFacts_35 : decode cX6_shareFacts 35 = .ok (.iload_n 1, 1) := by decide +kernel
theorem dX6_shareFacts_36 : decode cX6_shareFacts 36 = .ok (.invokevirtual 162, 3) := by decide +kernel
theorem dX6_shareFacts_39 : decode cX6_shareFacts 39 = .ok (.istore_n 3, 1) := by decide +kernel
theorem dX6_shareFacts_40 : decode cX6_shareFacts 40 = .ok (.iload_n 2, 1) := by decide +kernel
theorem dX6_shareFacts_41 : decode cX6_shareFacts 41 = .ok (.iconst 1, 1) := by decide +kernel
theorem dX6_shareFacts_42 : decode cX6_shareFacts 42 = .ok (.if_icmp .ne 5, 3) := by decide +kernel
theorem dX6_shareFacts_45 : decode cX6_shareFacts 45 = .ok (.iload_n 3, 1) := by decide +kernel
theorem dX6_shareFacts_46 : decode cX6_shareFacts 46 = .ok (.ireturn, 1) := by decide +kernel
theorem dX6_shareFacts_47 : decode cX6_shareFacts 47 = .ok (.iload_n 3, 1) := by decide +kernel
theorem dX6_shareFacts_48 : decode cX6_shareFacts 48 = .ok (.iload_n 1, 1) := by decide +kernel
theorem dX6_shareFacts_49 : decode cX6_shareFacts 49 = .ok (.aload_n 0, 1) := by decide +kernel
theorem dX6_shareFacts_50 : decode cX6_shareFacts 50 = .ok (.getfield 27, 3) := by decide +kernel
theorem dX6_shareFacts_53 : decode cX6_shareFacts 53 = .ok (.getfield 84, 3) := by decide +kernel
theorem dX6_shareFacts_56 : decode cX6_shareFacts 56 = .ok (.aload_n 0, 1) := by decide +kernel
theorem dX6_shareFacts_57 : decode cX6_shareFacts 57 = .ok (.getfield 27, 3) := by decide +kernel
theorem dX6_shareFacts_60 : decode cX6_shareFacts 60 = .ok (.getfield 87, 3) := by decide +kernel
theorem dX6_shareFacts_63 : decode cX6_shareFacts 63 = .ok (.invokestatic 90, 3) := by decide +kernel
theorem dX6_shareFacts_66 : decode cX6_shareFacts 66 = .ok (.ifCond .eq 7, 3) := by decide +kernel
theorem dX6_shareFacts_69 : decode cX6_shareFacts 69 = .ok (.iconst 1, 1) := by decide +kernel
theorem dX6_shareFacts_70 : decode cX6_shareFacts 70 = .ok (.goto 4, 3) := by decide +kernel
theorem dX6_shareFacts_73 : decode cX6_shareFacts 73 = .ok (.iconst 0, 1) := by decide +kernel
theorem dX6_shareFacts_74 : decode cX6_shareFacts 74 = .ok (.ireturn, 1) := by decide +kernel
theorem dX6_isMember_0 : decode cX6_isMember 0 = .ok (.iload_n 0, 1) := by decide +kernel
theorem dX6_isMember_1 : decode cX6_isMember 1 = .ok (.iconst 1, 1) := by decide +kernel
theorem dX6_isMember_2 : decode cX6_isMember 2 = .ok (.if_icmp .lt 13, 3) := by decide +kernel
theorem dX6_isMember_5 : decode cX6_isMember 5 = .ok (.iload_n 0, 1) := by decide +kernel
theorem dX6_isMember_6 : decode cX6_isMember 6 = .ok (.bipush 7, 2) := by decide +kernel
theorem dX6_isMember_8 : decode cX6_isMember 8 = .ok (.if_icmp .gt 7, 3) := by decide +kernel
theorem dX6_isMember_11 : decode cX6_isMember 11 = .ok (.iconst 1, 1) := by decide +kernel
theorem dX6_isMember_12 : decode cX6_isMember 12 = .ok (.goto 4, 3) := by decide +kernel
theorem dX6_isMember_15 : decode cX6_isMember 15 = .ok (.iconst 0, 1) := by decide +kernel
theorem dX6_isMember_16 : decode cX6_isMember 16 = .ok (.ireturn, 1) := by decide +kernel
theorem dX6_isValue_0 : decode cX6_isValue 0 = .ok (.iload_n 0, 1) := by decide +kernel
theorem dX6_isValue_1 : decode cX6_isValue 1 = .ok (.ifCond .lt 13, 3) := by decide +kernel
theorem dX6_isValue_4 : decode cX6_isValue 4 = .ok (.iload_n 0, 1) := by decide +kernel
theorem dX6_isValue_5 : decode cX6_isValue 5 = .ok (.bipush 23, 2) := by decide +kernel
theorem dX6_isValue_7 : decode cX6_isValue 7 = .ok (.if_icmp .ge 7, 3) := by decide +kernel
theorem dX6_isValue_10 : decode cX6_isValue 10 = .ok (.iconst 1, 1) := by decide +kernel
theorem dX6_isValue_11 : decode cX6_isValue 11 = .ok (.goto 4, 3) := by decide +kernel
theorem dX6_isValue_14 : decode cX6_isValue 14 = .ok (.iconst 0, 1) := by decide +kernel
theorem dX6_isValue_15 : decode cX6_isValue 15 = .ok (.ireturn, 1) := by decide +kernel
theorem dX6_highestBend_0 : decode cX6_highestBend 0 = .ok (.iload_n 0, 1) := by decide +kernel
theorem dX6_highestBend_1 : decode cX6_highestBend 1 = .ok (.ifCond .eq 8, 3) := by decide +kernel
theorem dX6_highestBend_4 : decode cX6_highestBend 4 = .ok (.iload_n 0, 1) := by decide +kernel
theorem dX6_highestBend_5 : decode cX6_highestBend 5 = .ok (.iconst 1, 1) := by decide +kernel
theorem dX6_highestBend_6 : decode cX6_highestBend 6 = .ok (.if_icmp .ne 6, 3) := by decide +kernel
theorem dX6_highestBend_9 : decode cX6_highestBend 9 = .ok (.bipush 22, 2) := by decide +kernel
theorem dX6_highestBend_11 : decode cX6_highestBend 11 = .ok (.ireturn, 1) := by decide +kernel
theorem dX6_highestBend_12 : decode cX6_highestBend 12 = .ok (.iload_n 0, 1) := by decide +kernel
theorem dX6_highestBend_13 : decode cX6_highestBend 13 = .ok (.iconst 2, 1) := by decide +kernel
theorem dX6_highestBend_14 : decode cX6_highestBend 14 = .ok (.if_icmp .eq 8, 3) := by decide +kernel
theorem dX6_highestBend_17 : decode cX6_highestBend 17 = .ok (.iload_n 0, 1) := by decide +kernel
theorem dX6_highestBend_18 : decode cX6_highestBend 18 = .ok (.iconst 3, 1) := by decide +kernel
theorem dX6_highestBend_19 : decode cX6_highestBend 19 = .ok (.if_icmp .ne 8, 3) := by decide +kernel
theorem dX6_highestBend_22 : decode cX6_highestBend 22 = .ok (.bipush 7, 2) := by decide +kernel
theorem dX6_highestBend_24 : decode cX6_highestBend 24 = .ok (.goto 4, 3) := by decide +kernel
theorem dX6_highestBend_27 : decode cX6_highestBend 27 = .ok (.iconst 1, 1) := by decide +kernel
theorem dX6_highestBend_28 : decode cX6_highestBend 28 = .ok (.ireturn, 1) := by decide +kernel
set_option maxRecDepth 20000 in
theorem ggX7_init_X7_bentAt : GoodIn wsX7_init wsX7_bentAt := goodIn_r _ [16] (by decide +kernel) (by decide +kernel)
set_option maxRecDepth 20000 in
theorem gX7_init_X7_bentAt : GoodIn wsX7_init (va_wsS RX7 32 yX7_bentAt wsX7_bentAt) := goodIn_app (goodIn_of _ (by decide +kernel)) ggX7_init_X7_bentAt
theorem dX7_init_0 : decode cX7_init 0 = .ok (.aload_n 0, 1) := by decide +kernel
theorem dX7_init_1 : decode cX7_init 1 = .ok (.invokespecial 1, 3) := by decide +kernel
theorem dX7_init_4 : decode cX7_init 4 = .ok (.aload_n 0, 1) := by decide +kernel
theorem dX7_init_5 : decode cX7_init 5 = .ok (.sipush 371, 3) := by decide +kernel
theorem dX7_init_8 : decode cX7_init 8 = .ok (.newarray .int, 2) := by decide +kernel
theorem dX7_init_10 : decode cX7_init 10 = .ok (.putfield 7, 3) := by decide +kernel
theorem dX7_init_13 : decode cX7_init 13 = .ok (.aload_n 0, 1) := by decide +kernel
theorem dX7_init_14 : decode cX7_init 14 = .ok (.bipush 10, 2) := by decide +kernel
theorem dX7_init_16 : decode cX7_init 16 = .ok (.newarray .int, 2) := by decide +kernel
theorem dX7_init_18 : decode cX7_init 18 = .ok (.putfield 13, 3) := by decide +kernel
theorem dX7_init_21 : decode cX7_init 21 = .ok (.aload_n 0, 1) := by decide +kernel
theorem dX7_init_22 : decode cX7_init 22 = .ok (.iconst 5, 1) := by decide +kernel
theorem dX7_init_23 : decode cX7_init 23 = .ok (.newarray .int, 2) := by decide +kernel
theorem dX7_init_25 : decode cX7_init 25 = .ok (.putfield 16, 3) := by decide +kernel
theorem dX7_init_28 : decode cX7_init 28 = .ok (.aload_n 0, 1) := by decide +kernel
theorem dX7_init_29 : decode cX7_init 29 = .ok (.bipush 8, 2) := by decide +kernel
theorem dX7_init_31 : decode cX7_init 31 = .ok (.newarray .int, 2) := by decide +kernel
theorem dX7_init_33 : decode cX7_init 33 = .ok (.putfield 19, 3) := by decide +kernel
theorem dX7_init_36 : decode cX7_init 36 = .ok (.aload_n 0, 1) := by decide +kernel
theorem dX7_init_37 : decode cX7_init 37 = .ok (.iconst 5, 1) := by decide +kernel
theorem dX7_init_38 : decode cX7_init 38 = .ok (.newarray .int, 2) := by decide +kernel
theorem dX7_init_40 : decode cX7_init 40 = .ok (.putfield 22, 3) := by decide +kernel
theorem dX7_init_43 : decode cX7_init 43 = .ok (.aload_n 0, 1) := by decide +kernel
theorem dX7_init_44 : decode cX7_init 44 = .ok (.sipush 742, 3) := by decide +kernel
theorem dX7_init_47 : decode cX7_init 47 = .ok (.newarray .int, 2) := by decide +kernel
theorem dX7_init_49 : decode cX7_init 49 = .ok (.putfield 25, 3) := by decide +kernel
theorem dX7_init_52 : decode cX7_init 52 = .ok (.aload_n 0, 1) := by decide +kernel
theorem dX7_init_53 : decode cX7_init 53 = .ok (.iconst 2, 1) := by decide +kernel
theorem dX7_init_54 : decode cX7_init 54 = .ok (.newarray .boolean, 2) := by decide +kernel
theorem dX7_init_56 : decode cX7_init 56 = .ok (.putfield 28, 3) := by decide +kernel
theorem dX7_init_59 : decode cX7_init 59 = .ok (.iconst 1, 1) := by decide +kernel
theorem dX7_init_60 : decode cX7_init 60 = .ok (.istore_n 1, 1) := by decide +kernel
theorem dX7_init_61 : decode cX7_init 61 = .ok (.iload_n 1, 1) := by decide +kernel
theorem dX7_init_62 : decode cX7_init 62 = .ok (.bipush 7, 2) := by decide +kernel
theorem dX7_init_64 : decode cX7_init 64 = .ok (.if_icmp .gt 31, 3) := by decide +kernel
theorem dX7_init_67 : decode cX7_init 67 = .ok (.aload_n 0, 1) := by decide +kernel
theorem dX7_init_68 : decode cX7_init 68 = .ok (.getfield 7, 3) := by decide +kernel
theorem dX7_init_71 : decode cX7_init 71 = .ok (.bipush 40, 2) := by decide +kernel
theorem dX7_init_73 : decode cX7_init 73 = .ok (.iload_n 1, 1) := by decide +kernel
theorem dX7_init_74 : decode cX7_init 74 = .ok (.iadd, 1) := by decide +kernel
theorem dX7_init_75 : decode cX7_init 75 = .ok (.bipush (-6), 2) := by decide +kernel
theorem dX7_init_77 : decode cX7_init 77 = .ok (.iastore, 1) := by decide +kernel
theorem dX7_init_78 : decode cX7_init 78 = .ok (.aload_n 0, 1) := by decide +kernel
theorem dX7_init_79 : decode cX7_init 79 = .ok (.getfield 7, 3) := by decide +kernel
theorem dX7_init_82 : decode cX7_init 82 = .ok (.iload_n 1, 1) := by decide +kernel
theorem dX7_init_83 : decode cX7_init 83 = .ok (.iconst 4, 1) := by decide +kernel
theorem dX7_init_84 : decode cX7_init 84 = .ok (.invokestatic 32, 3) := by decide +kernel
theorem dX7_init_87 : decode cX7_init 87 = .ok (.iconst 1, 1) := by decide +kernel
theorem dX7_init_88 : decode cX7_init 88 = .ok (.iastore, 1) := by decide +kernel
theorem dX7_init_89 : decode cX7_init 89 = .ok (.iinc 1 1, 3) := by decide +kernel
theorem dX7_init_92 : decode cX7_init 92 = .ok (.goto (-31), 3) := by decide +kernel
theorem dX7_init_95 : decode cX7_init 95 = .ok (.aload_n 0, 1) := by decide +kernel
theorem dX7_init_96 : decode cX7_init 96 = .ok (.getfield 7, 3) := by decide +kernel
theorem dX7_init_99 : decode cX7_init 99 = .ok (.bipush 88, 2) := by decide +kernel
theorem dX7_init_101 : decode cX7_init 101 = .ok (.bipush (-6), 2) := by decide +kernel
theorem dX7_init_103 : decode cX7_init 103 = .ok (.iastore, 1) := by decide +kernel
theorem dX7_init_104 : decode cX7_init 104 = .ok (.aload_n 0, 1) := by decide +kernel
theorem dX7_init_105 : decode cX7_init 105 = .ok (.getfield 7, 3) := by decide +kernel
theorem dX7_init_108 : decode cX7_init 108 = .ok (.bipush 89, 2) := by decide +kernel
theorem dX7_init_110 : decode cX7_init 110 = .ok (.bipush (-6), 2) := by decide +kernel
theorem dX7_init_112 : decode cX7_init 112 = .ok (.iastore, 1) := by decide +kernel
theorem dX7_init_113 : decode cX7_init 113 = .ok (.return_, 1) := by decide +kernel
theorem dX7_in_0 : decode cX7_in 0 = .ok (.iload_n 0, 1) := by decide +kernel
theorem dX7_in_1 : decode cX7_in 1 = .ok (.iload_n 1, 1) := by decide +kernel
theorem dX7_in_2 : decode cX7_in 2 = .ok (.if_icmp .lt 12, 3) := by decide +kernel
theorem dX7_in_5 : decode cX7_in 5 = .ok (.iload_n 0, 1) := by decide +kernel
theorem dX7_in_6 : decode cX7_in 6 = .ok (.iload_n 2, 1) := by decide +kernel
theorem dX7_in_7 : decode cX7_in 7 = .ok (.if_icmp .gt 7, 3) := by decide +kernel
theorem dX7_in_10 : decode cX7_in 10 = .ok (.iconst 1, 1) := by decide +kernel
theorem dX7_in_11 : decode cX7_in 11 = .ok (.goto 4, 3) := by decide +kernel
theorem dX7_in_14 : decode cX7_in 14 = .ok (.iconst 0, 1) := by decide +kernel
theorem dX7_in_15 : decode cX7_in 15 = .ok (.ireturn, 1) := by decide +kernel
set_option maxRecDepth 20000 in
theorem ggX7_isMember_X7_in : GoodIn wsX7_isMember wsX7_in := goodIn_r _ [4] (by decide +kernel) (by decide +kernel)
set_option maxRecDepth 20000 in
theorem gX7_isMember_X7_in : GoodIn wsX7_isMember (va_wsS RX7 36 yX7_in wsX7_in) := goodIn_app (goodIn_of _ (by decide +kernel)) ggX7_isMember_X7_in
theorem dX7_isMember_0 : decode cX7_isMember 0 = .ok (.iload_n 0, 1) := by decide +kernel
theorem dX7_isMember_1 : decode cX7_isMember 1 = .ok (.iconst 1, 1) := by decide +kernel
theorem dX7_isMember_2 : decode cX7_isMember 2 = .ok (.bipush 7, 2) := by decide +kernel
theorem dX7_isMember_4 : decode cX7_isMember 4 = .ok (.invokestatic 36, 3) := by decide +kernel
theorem dX7_isMember_7 : decode cX7_isMember 7 = .ok (.ireturn, 1) := by decide +kernel
set_option maxRecDepth 20000 in
theorem ggX7_isValue_X7_in : GoodIn wsX7_isValue wsX7_in := goodIn_r _ [4] (by decide +kernel) (by decide +kernel)
set_option maxRecDepth 20000 in
theorem gX7_isValue_X7_in : GoodIn wsX7_isValue (va_wsS RX7 36 yX7_in wsX7_in) := goodIn_app (goodIn_of _ (by decide +kernel)) ggX7_isValue_X7_in
theorem dX7_isValue_0 : decode cX7_isValue 0 = .ok (.iload_n 0, 1) := by decide +kernel
theorem dX7_isValue_1 : decode cX7_isValue 1 = .ok (.iconst 0, 1) := by decide +kernel
theorem dX7_isValue_2 : decode cX7_isValue 2 = .ok (.bipush 22, 2) := by decide +kernel
theorem dX7_isValue_4 : decode cX7_isValue 4 = .ok (.invokestatic 36, 3) := by decide +kernel
theorem dX7_isValue_7 : decode cX7_isValue 7 = .ok (.ireturn, 1) := by decide +kernel
theorem dX7_bentAt_0 : decode cX7_bentAt 0 = .ok (.bipush 48, 2) := by decide +kernel
theorem dX7_bentAt_2 : decode cX7_bentAt 2 = .ok (.bipush 8, 2) := by decide +kernel
theorem dX7_bentAt_4 : decode cX7_bentAt 4 = .ok (.iload_n 1, 1) := by decide +kernel
theorem dX7_bentAt_5 : decode cX7_bentAt 5 = .ok (.imul, 1) := by decide +kernel
theorem dX7_bentAt_6 : decode cX7_bentAt 6 = .ok (.iadd, 1) := by decide +kernel
theorem dX7_bentAt_7 : decode cX7_bentAt 7 = .ok (.iload_n 0, 1) := by decide +kernel
theorem dX7_bentAt_8 : decode cX7_bentAt 8 = .ok (.iadd, 1) := by decide +kernel
theorem dX7_bentAt_9 : decode cX7_bentAt 9 = .ok (.ireturn, 1) := by decide +kernel
set_option maxRecDepth 20000 in
theorem ggX7_bentOf_X7_bentAt : GoodIn wsX7_bentOf wsX7_bentAt := goodIn_r _ [5] (by decide +kernel) (by decide +kernel)
set_option maxRecDepth 20000 in
theorem gX7_bentOf_X7_bentAt : GoodIn wsX7_bentOf (va_wsS RX7 32 yX7_bentAt wsX7_bentAt) := goodIn_app (goodIn_of _ (by decide +kernel)) ggX7_bentOf_X7_bentAt
theorem dX7_bentOf_0 : decode cX7_bentOf 0 = .ok (.aload_n 0, 1) := by decide +kernel
theorem dX7_bentOf_1 : decode cX7_bentOf 1 = .ok (.getfield 7, 3) := by decide +kernel
theorem dX7_bentOf_4 : decode cX7_bentOf 4 = .ok (.iload_n 1, 1) := by decide +kernel
theorem dX7_bentOf_5 : decode cX7_bentOf 5 = .ok (.iload_n 2, 1) := by decide +kernel
theorem dX7_bentOf_6 : decode cX7_bentOf 6 = .ok (.invokestatic 32, 3) := by decide +kernel
theorem dX7_bentOf_9 : decode cX7_bentOf 9 = .ok (.iaload, 1) := by decide +kernel
theorem dX7_bentOf_10 : decode cX7_bentOf 10 = .ok (.ireturn, 1) := by decide +kernel
theorem dX7_has_0 : decode cX7_has 0 = .ok (.iload_n 0, 1) := by decide +kernel
theorem dX7_has_1 : decode cX7_has 1 = .ok (.iload_n 1, 1) := by decide +kernel
theorem dX7_has_2 : decode cX7_has 2 = .ok (.ishr, 1) := by decide +kernel
theorem dX7_has_3 : decode cX7_has 3 = .ok (.iconst 1, 1) := by decide +kernel
theorem dX7_has_4 : decode cX7_has 4 = .ok (.iand, 1) := by decide +kernel
theorem dX7_has_5 : decode cX7_has 5 = .ok (.iconst 1, 1) := by decide +kernel
theorem dX7_has_6 : decode cX7_has 6 = .ok (.if_icmp .ne 7, 3) := by decide +kernel
theorem dX7_has_9 : decode cX7_has 9 = .ok (.iconst 1, 1) := by decide +kernel
theorem dX7_has_10 : decode cX7_has 10 = .ok (.goto 4, 3) := by decide +kernel
theorem dX7_has_13 : decode cX7_has 13 = .ok (.iconst 0, 1) := by decide +kernel
theorem dX7_has_14 : decode cX7_has 14 = .ok (.ireturn, 1) := by decide +kernel
theorem dX7_isDealt_0 : decode cX7_isDealt 0 = .ok (.aload_n 0, 1) := by decide +kernel
theorem dX7_isDealt_1 : decode cX7_isDealt 1 = .ok (.getfield 7, 3) := by decide +kernel
theorem dX7_isDealt_4 : decode cX7_isDealt 4 = .ok (.bipush 89, 2) := by decide +kernel
theorem dX7_isDealt_6 : decode cX7_isDealt 6 = .ok (.iaload, 1) := by decide +kernel
theorem dX7_isDealt_7 : decode cX7_isDealt 7 = .ok (.ifCond .lt 7, 3) := by decide +kernel
theorem dX7_isDealt_10 : decode cX7_isDealt 10 = .ok (.iconst 1, 1) := by decide +kernel
theorem dX7_isDealt_11 : decode cX7_isDealt 11 = .ok (.goto 4, 3) := by decide +kernel
theorem dX7_isDealt_14 : decode cX7_isDealt 14 = .ok (.iconst 0, 1) := by decide +kernel
theorem dX7_isDealt_15 : decode cX7_isDealt 15 = .ok (.ireturn, 1) := by decide +kernel
theorem dX7_mod_0 : decode cX7_mod 0 = .ok (.iload_n 0, 1) := by decide +kernel
theorem dX7_mod_1 : decode cX7_mod 1 = .ok (.bipush 23, 2) := by decide +kernel
theorem dX7_mod_3 : decode cX7_mod 3 = .ok (.irem, 1) := by decide +kernel
theorem dX7_mod_4 : decode cX7_mod 4 = .ok (.istore_n 1, 1) := by decide +kernel
theorem dX7_mod_5 : decode cX7_mod 5 = .ok (.iload_n 1, 1) := by decide +kernel
theorem dX7_mod_6 : decode cX7_mod 6 = .ok (.ifCond .ge 10, 3) := by decide +kernel
theorem dX7_mod_9 : decode cX7_mod 9 = .ok (.iload_n 1, 1) := by decide +kernel
theorem dX7_mod_10 : decode cX7_mod 10 = .ok (.bipush 23, 2) := by decide +kernel
theorem dX7_mod_12 : decode cX7_mod 12 = .ok (.iadd, 1) := by decide +kernel
theorem dX7_mod_13 : decode cX7_mod 13 = .ok (.goto 4, 3) := by decide +kernel
theorem dX7_mod_16 : decode cX7_mod 16 = .ok (.iload_n 1, 1) := by decide +kernel
theorem dX7_mod_17 : decode cX7_mod 17 = .ok (.ireturn, 1) := by decide +kernel
theorem dX7_power_0 : decode cX7_power 0 = .ok (.iconst 1, 1) := by decide +kernel
theorem dX7_power_1 : decode cX7_power 1 = .ok (.istore_n 3, 1) := by decide +kernel
theorem dX7_power_2 : decode cX7_power 2 = .ok (.iconst 0, 1) := by decide +kernel
theorem dX7_power_3 : decode cX7_power 3 = .ok (.istore 4, 2) := by decide +kernel
theorem dX7_power_5 : decode cX7_power 5 = .ok (.iload 4, 2) := by decide +kernel
theorem dX7_power_7 : decode cX7_power 7 = .ok (.iload_n 1, 1) := by decide +kernel
theorem dX7_power_8 : decode cX7_power 8 = .ok (.if_icmp .ge 15, 3) := by decide +kernel
theorem dX7_power_11 : decode cX7_power 11 = .ok (.iload_n 3, 1) := by decide +kernel
theorem dX7_power_12 : decode cX7_power 12 = .ok (.iload_n 0, 1) := by decide +kernel
theorem dX7_power_13 : decode cX7_power 13 = .ok (.imul, 1) := by decide +kernel
theorem dX7_power_14 : decode cX7_power 14 = .ok (.iload_n 2, 1) := by decide +kernel
theorem dX7_power_15 : decode cX7_power 15 = .ok (.irem, 1) := by decide +kernel
theorem dX7_power_16 : decode cX7_power 16 = .ok (.istore_n 3, 1) := by decide +kernel
theorem dX7_power_17 : decode cX7_power 17 = .ok (.iinc 4 1, 3) := by decide +kernel
theorem dX7_power_20 : decode cX7_power 20 = .ok (.goto (-15), 3) := by decide +kernel
theorem dX7_power_23 : decode cX7_power 23 = .ok (.iload_n 3, 1) := by decide +kernel
theorem dX7_power_24 : decode cX7_power 24 = .ok (.ireturn, 1) := by decide +kernel
set_option maxRecDepth 20000 in
theorem ggX7_sealOf_X7_power : GoodIn wsX7_sealOf wsX7_power := goodIn_r _ [4] (by decide +kernel) (by decide +kernel)
set_option maxRecDepth 20000 in
theorem gX7_sealOf_X7_power : GoodIn wsX7_sealOf (va_wsS RX7 40 yX7_power wsX7_power) := goodIn_app (goodIn_of _ (by decide +kernel)) ggX7_sealOf_X7_power
theorem dX7_sealOf_0 : decode cX7_sealOf 0 = .ok (.iconst 4, 1) := by decide +kernel
theorem dX7_sealOf_1 : decode cX7_sealOf 1 = .ok (.iload_n 0, 1) := by decide +kernel
theorem dX7_sealOf_2 : decode cX7_sealOf 2 = .ok (.bipush 47, 2) := by decide +kernel
theorem dX7_sealOf_4 : decode cX7_sealOf 4 = .ok (.invokestatic 40, 3) := by decide +kernel
theorem dX7_sealOf_7 : decode cX7_sealOf 7 = .ok (.ireturn, 1) := by decide +kernel
set_option maxRecDepth 20000 in
theorem ggX7_row_X7_in : GoodIn wsX7_row wsX7_in := goodIn_r _ [5] (by decide +kernel) (by decide +kernel)
set_option maxRecDepth 20000 in
theorem gX7_row_X7_in : GoodIn wsX7_row (va_wsS RX7 36 yX7_in wsX7_in) := goodIn_app (goodIn_of _ (by decide +kernel)) ggX7_row_X7_in
set_option maxRecDepth 20000 in
theorem ggX7_row_X7_isValue : GoodIn wsX7_row wsX7_isValue := goodIn_r _ [8, 2, 3, 4, 5] (by decide +kernel) (by decide +kernel)
set_option maxRecDepth 20000 in
theorem gX7_row_X7_isValue : GoodIn wsX7_row (va_wsS RX7 44 yX7_isValue wsX7_isValue) := goodIn_app (goodIn_of _ (by decide +kernel)) ggX7_row_X7_isValue
theorem dX7_row_0 : decode cX7_row 0 = .ok (.iload_n 1, 1) := by decide +kernel
theorem dX7_row_1 : decode cX7_row 1 = .ok (.iconst 0, 1) := by decide +kernel
theorem dX7_row_2 : decode cX7_row 2 = .ok (.bipush 7, 2) := by decide +kernel
theorem dX7_row_4 : decode cX7_row 4 = .ok (.invokestatic 36, 3) := by decide +kernel
theorem dX7_row_7 : decode cX7_row 7 = .ok (.ifCond .ne 5, 3) := by decide +kernel
theorem dX7_row_10 : decode cX7_row 10 = .ok (.iconst (-1), 1) := by decide +kernel
theorem dX7_row_11 : decode cX7_row 11 = .ok (.ireturn, 1) := by decide +kernel
theorem dX7_row_12 : decode cX7_row 12 = .ok (.iload_n 2, 1) := by decide +kernel
theorem dX7_row_13 : decode cX7_row 13 = .ok (.iconst 0, 1) := by decide +kernel
theorem dX7_row_14 : decode cX7_row 14 = .ok (.iconst 4, 1) := by decide +kernel
theorem dX7_row_15 : decode cX7_row 15 = .ok (.invokestatic 36, 3) := by decide +kernel
theorem dX7_row_18 : decode cX7_row 18 = .ok (.ifCond .eq 10, 3) := by decide +kernel
theorem dX7_row_21 : decode cX7_row 21 = .ok (.iload_n 3, 1) := by decide +kernel
theorem dX7_row_22 : decode cX7_row 22 = .ok (.invokestatic 44, 3) := by decide +kernel
theorem dX7_row_25 : decode cX7_row 25 = .ok (.ifCond .ne 6, 3) := by decide +kernel
theorem dX7_row_28 : decode cX7_row 28 = .ok (.bipush (-2), 2) := by decide +kernel
theorem dX7_row_30 : decode cX7_row 30 = .ok (.ireturn, 1) := by decide +kernel
theorem dX7_row_31 : decode cX7_row 31 = .ok (.aload_n 0, 1) := by decide +kernel
theorem dX7_row_32 : decode cX7_row 32 = .ok (.getfield 7, 3) := by decide +kernel
theorem dX7_row_35 : decode cX7_row 35 = .ok (.iconst 0, 1) := by decide +kernel
theorem dX7_row_36 : decode cX7_row 36 = .ok (.iconst 5, 1) := by decide +kernel
theorem dX7_row_37 : decode cX7_row 37 = .ok (.iload_n 1, 1) := by decide +kernel
theorem dX7_row_38 : decode cX7_row 38 = .ok (.imul, 1) := by decide +kernel
theorem dX7_row_39 : decode cX7_row 39 = .ok (.iadd, 1) := by decide +kernel
theorem dX7_row_40 : decode cX7_row 40 = .ok (.iload_n 2, 1) := by decide +kernel
theorem dX7_row_41 : decode cX7_row 41 = .ok (.iadd, 1) := by decide +kernel
theorem dX7_row_42 : decode cX7_row 42 = .ok (.iaload, 1) := by decide +kernel
theorem dX7_row_43 : decode cX7_row 43 = .ok (.istore 4, 2) := by decide +kernel
theorem dX7_row_45 : decode cX7_row 45 = .ok (.aload_n 0, 1) := by decide +kernel
theorem dX7_row_46 : decode cX7_row 46 = .ok (.getfield 7, 3) := by decide +kernel
theorem dX7_row_49 : decode cX7_row 49 = .ok (.iconst 0, 1) := by decide +kernel
theorem dX7_row_50 : decode cX7_row 50 = .ok (.iconst 5, 1) := by decide +kernel
theorem dX7_row_51 : decode cX7_row 51 = .ok (.iload_n 1, 1) := by decide +kernel
theorem dX7_row_52 : decode cX7_row 52 = .ok (.imul, 1) := by decide +kernel
theorem dX7_row_53 : decode cX7_row 53 = .ok (.iadd, 1) := by decide +kernel
theorem dX7_row_54 : decode cX7_row 54 = .ok (.iload_n 2, 1) := by decide +kernel
theorem dX7_row_55 : decode cX7_row 55 = .ok (.iadd, 1) := by decide +kernel
theorem dX7_row_56 : decode cX7_row 56 = .ok (.iload_n 3, 1) := by decide +kernel
theorem dX7_row_57 : decode cX7_row 57 = .ok (.iastore, 1) := by decide +kernel
theorem dX7_row_58 : decode cX7_row 58 = .ok (.iload 4, 2) := by decide +kernel
theorem dX7_row_60 : decode cX7_row 60 = .ok (.ireturn, 1) := by decide +kernel
set_option maxRecDepth 20000 in
theorem ggX7_bent_X7_isMember : GoodIn wsX7_bent wsX7_isMember := goodIn_r _ [5, 6, 7, 4, 8] (by decide +kernel) (by decide +kernel)
set_option maxRecDepth 20000 in
theorem gX7_bent_X7_isMember : GoodIn wsX7_bent (va_wsS RX7 48 yX7_isMember wsX7_isMember) := goodIn_app (goodIn_of _ (by decide +kernel)) ggX7_bent_X7_isMember
set_option maxRecDepth 20000 in
theorem ggX7_bent_X7_in : GoodIn wsX7_bent wsX7_in := goodIn_r _ [8] (by decide +kernel) (by decide +kernel)
set_option maxRecDepth 20000 in
theorem gX7_bent_X7_in : GoodIn wsX7_bent (va_wsS RX7 36 yX7_in wsX7_in) := goodIn_app (goodIn_of _ (by decide +kernel)) ggX7_bent_X7_in
set_option maxRecDepth 20000 in
theorem ggX7_bent_X7_bentOf : GoodIn wsX7_bent wsX7_bentOf := goodIn_r _ [12, 1, 13, 14, 4, 15, 16, 17, 18, 19, 20, 21, 22, 23, 24] (by decide +kernel) (by decide +kernel)
set_option maxRecDepth 20000 in
theorem gX7_bent_X7_bentOf : GoodIn wsX7_bent (wsV RX7 51 RX7 yX7_bentOf wsX7_bentOf) := goodIn_app (goodIn_of _ (by decide +kernel)) ggX7_bent_X7_bentOf
set_option maxRecDepth 20000 in
theorem ggX7_bent_X7_bentAt : GoodIn wsX7_bent wsX7_bentAt := goodIn_r _ [15] (by decide +kernel) (by decide +kernel)
set_option maxRecDepth 20000 in
theorem gX7_bent_X7_bentAt : GoodIn wsX7_bent (va_wsS RX7 32 yX7_bentAt wsX7_bentAt) := goodIn_app (goodIn_of _ (by decide +kernel)) ggX7_bent_X7_bentAt
theorem dX7_bent_0 : decode cX7_bent 0 = .ok (.iload_n 1, 1) := by decide +kernel
theorem dX7_bent_1 : decode cX7_bent 1 = .ok (.invokestatic 48, 3) := by decide +kernel
theorem dX7_bent_4 : decode cX7_bent 4 = .ok (.ifCond .ne 5, 3) := by decide +kernel
theorem dX7_bent_7 : decode cX7_bent 7 = .ok (.iconst (-1), 1) := by decide +kernel
theorem dX7_bent_8 : decode cX7_bent 8 = .ok (.ireturn, 1) := by decide +kernel
theorem dX7_bent_9 : decode cX7_bent 9 = .ok (.iload_n 2, 1) := by decide +kernel
theorem dX7_bent_10 : decode cX7_bent 10 = .ok (.iconst 0, 1) := by decide +kernel
theorem dX7_bent_11 : decode cX7_bent 11 = .ok (.iconst 4, 1) := by decide +kernel
theorem dX7_bent_12 : decode cX7_bent 12 = .ok (.invokestatic 36, 3) := by decide +kernel
theorem dX7_bent_15 : decode cX7_bent 15 = .ok (.ifCond .eq 32, 3) := by decide +kernel
theorem dX7_bent_18 : decode cX7_bent 18 = .ok (.iload_n 3, 1) := by decide +kernel
theorem dX7_bent_19 : decode cX7_bent 19 = .ok (.iconst 0, 1) := by decide +kernel
theorem dX7_bent_20 : decode cX7_bent 20 = .ok (.iload_n 2, 1) := by decide +kernel
theorem dX7_bent_21 : decode cX7_bent 21 = .ok (.iconst 2, 1) := by decide +kernel
theorem dX7_bent_22 : decode cX7_bent 22 = .ok (.if_icmp .ge 8, 3) := by decide +kernel
theorem dX7_bent_25 : decode cX7_bent 25 = .ok (.bipush 22, 2) := by decide +kernel
theorem dX7_bent_27 : decode cX7_bent 27 = .ok (.goto 14, 3) := by decide +kernel
theorem dX7_bent_30 : decode cX7_bent 30 = .ok (.iload_n 2, 1) := by decide +kernel
theorem dX7_bent_31 : decode cX7_bent 31 = .ok (.iconst 4, 1) := by decide +kernel
theorem dX7_bent_32 : decode cX7_bent 32 = .ok (.if_icmp .ge 8, 3) := by decide +kernel
theorem dX7_bent_35 : decode cX7_bent 35 = .ok (.bipush 7, 2) := by decide +kernel
theorem dX7_bent_37 : decode cX7_bent 37 = .ok (.goto 4, 3) := by decide +kernel
theorem dX7_bent_40 : decode cX7_bent 40 = .ok (.iconst 1, 1) := by decide +kernel
theorem dX7_bent_41 : decode cX7_bent 41 = .ok (.invokestatic 36, 3) := by decide +kernel
theorem dX7_bent_44 : decode cX7_bent 44 = .ok (.ifCond .ne 6, 3) := by decide +kernel
theorem dX7_bent_47 : decode cX7_bent 47 = .ok (.bipush (-2), 2) := by decide +kernel
theorem dX7_bent_49 : decode cX7_bent 49 = .ok (.ireturn, 1) := by decide +kernel
theorem dX7_bent_50 : decode cX7_bent 50 = .ok (.aload_n 0, 1) := by decide +kernel
theorem dX7_bent_51 : decode cX7_bent 51 = .ok (.iload_n 1, 1) := by decide +kernel
theorem dX7_bent_52 : decode cX7_bent 52 = .ok (.iload_n 2, 1) := by decide +kernel
theorem dX7_bent_53 : decode cX7_bent 53 = .ok (.invokevirtual 51, 3) := by decide +kernel
theorem dX7_bent_56 : decode cX7_bent 56 = .ok (.istore 4, 2) := by decide +kernel
theorem dX7_bent_58 : decode cX7_bent 58 = .ok (.aload_n 0, 1) := by decide +kernel
theorem dX7_bent_59 : decode cX7_bent 59 = .ok (.getfield 7, 3) := by decide +kernel
theorem dX7_bent_62 : decode cX7_bent 62 = .ok (.iload_n 1, 1) := by decide +kernel
theorem dX7_bent_63 : decode cX7_bent 63 = .ok (.iload_n 2, 1) := by decide +kernel
theorem dX7_bent_64 : decode cX7_bent 64 = .ok (.invokestatic 32, 3) := by decide +kernel
theorem dX7_bent_67 : decode cX7_bent 67 = .ok (.iload_n 3, 1) := by decide +kernel
theorem dX7_bent_68 : decode cX7_bent 68 = .ok (.iastore, 1) := by decide +kernel
theorem dX7_bent_69 : decode cX7_bent 69 = .ok (.iload 4, 2) := by decide +kernel
theorem dX7_bent_71 : decode cX7_bent 71 = .ok (.ireturn, 1) := by decide +kernel
theorem dX7_hasShare_0 : decode cX7_hasShare 0 = .ok (.aload_n 0, 1) := by decide +kernel
theorem dX7_hasShare_1 : decode cX7_hasShare 1 = .ok (.getfield 7, 3) := by decide +kernel
theorem dX7_hasShare_4 : decode cX7_hasShare 4 = .ok (.bipush 40, 2) := by decide +kernel
theorem dX7_hasShare_6 : decode cX7_hasShare 6 = .ok (.iload_n 1, 1) := by decide +kernel
theorem dX7_hasShare_7 : decode cX7_hasShare 7 = .ok (.iadd, 1) := by decide +kernel
theorem dX7_hasShare_8 : decode cX7_hasShare 8 = .ok (.iaload, 1) := by decide +kernel
theorem dX7_hasShare_9 : decode cX7_hasShare 9 = .ok (.ifCond .lt 7, 3) := by decide +kernel
theorem dX7_hasShare_12 : decode cX7_hasShare 12 = .ok (.iconst 1, 1) := by decide +kernel
theorem dX7_hasShare_13 : decode cX7_hasShare 13 = .ok (.goto 4, 3) := by decide +kernel
theorem dX7_hasShare_16 : decode cX7_hasShare 16 = .ok (.iconst 0, 1) := by decide +kernel
theorem dX7_hasShare_17 : decode cX7_hasShare 17 = .ok (.ireturn, 1) := by decide +kernel
set_option maxRecDepth 20000 in
theorem ggX7_told_X7_bentOf : GoodIn wsX7_told wsX7_bentOf := goodIn_r _ [6, 1, 7, 8, 5, 9, 13, 14, 15, 16, 17, 18, 19, 20, 21] (by decide +kernel) (by decide +kernel)
set_option maxRecDepth 20000 in
theorem gX7_told_X7_bentOf : GoodIn wsX7_told (wsV RX7 51 RX7 yX7_bentOf wsX7_bentOf) := goodIn_app (goodIn_of _ (by decide +kernel)) ggX7_told_X7_bentOf
set_option maxRecDepth 20000 in
theorem ggX7_told_X7_mod : GoodIn wsX7_told wsX7_mod := goodIn_r _ [12] (by decide +kernel) (by decide +kernel)
set_option maxRecDepth 20000 in
theorem gX7_told_X7_mod : GoodIn wsX7_told (va_wsS RX7 54 yX7_mod wsX7_mod) := goodIn_app (goodIn_of _ (by decide +kernel)) ggX7_told_X7_mod
theorem dX7_told_0 : decode cX7_told 0 = .ok (.aload_n 0, 1) := by decide +kernel
theorem dX7_told_1 : decode cX7_told 1 = .ok (.getfield 7, 3) := by decide +kernel
theorem dX7_told_4 : decode cX7_told 4 = .ok (.bipush 40, 2) := by decide +kernel
theorem dX7_told_6 : decode cX7_told 6 = .ok (.iload_n 1, 1) := by decide +kernel
theorem dX7_told_7 : decode cX7_told 7 = .ok (.iadd, 1) := by decide +kernel
theorem dX7_told_8 : decode cX7_told 8 = .ok (.iaload, 1) := by decide +kernel
theorem dX7_told_9 : decode cX7_told 9 = .ok (.aload_n 0, 1) := by decide +kernel
theorem dX7_told_10 : decode cX7_told 10 = .ok (.iload_n 1, 1) := by decide +kernel
theorem dX7_told_11 : decode cX7_told 11 = .ok (.iconst 0, 1) := by decide +kernel
theorem dX7_told_12 : decode cX7_told 12 = .ok (.invokevirtual 51, 3) := by decide +kernel
theorem dX7_told_15 : decode cX7_told 15 = .ok (.iadd, 1) := by decide +kernel
theorem dX7_told_16 : decode cX7_told 16 = .ok (.invokestatic 54, 3) := by decide +kernel
theorem dX7_told_19 : decode cX7_told 19 = .ok (.ireturn, 1) := by decide +kernel
set_option maxRecDepth 20000 in
theorem ggX7_isFit_X7_power : GoodIn wsX7_isFit wsX7_power := goodIn_r _ [5] (by decide +kernel) (by decide +kernel)
set_option maxRecDepth 20000 in
theorem gX7_isFit_X7_power : GoodIn wsX7_isFit (va_wsS RX7 40 yX7_power wsX7_power) := goodIn_app (goodIn_of _ (by decide +kernel)) ggX7_isFit_X7_power
set_option maxRecDepth 20000 in
theorem ggX7_isFit_X7_sealOf : GoodIn wsX7_isFit wsX7_sealOf := goodIn_r _ [8, 2, 3, 4, 5] (by decide +kernel) (by decide +kernel)
set_option maxRecDepth 20000 in
theorem gX7_isFit_X7_sealOf : GoodIn wsX7_isFit (va_wsS RX7 58 yX7_sealOf wsX7_sealOf) := goodIn_app (goodIn_of _ (by decide +kernel)) ggX7_isFit_X7_sealOf
theorem dX7_isFit_0 : decode cX7_isFit 0 = .ok (.iconst 1, 1) := by decide +kernel
theorem dX7_isFit_1 : decode cX7_isFit 1 = .ok (.istore_n 3, 1) := by decide +kernel
theorem dX7_isFit_2 : decode cX7_isFit 2 = .ok (.iconst 0, 1) := by decide +kernel
theorem dX7_isFit_3 : decode cX7_isFit 3 = .ok (.istore 4, 2) := by decide +kernel
theorem dX7_isFit_5 : decode cX7_isFit 5 = .ok (.iload 4, 2) := by decide +kernel
theorem dX7_isFit_7 : decode cX7_isFit 7 = .ok (.aload_n 0, 1) := by decide +kernel
theorem dX7_isFit_8 : decode cX7_isFit 8 = .ok (.getfield 7, 3) := by decide +kernel
theorem dX7_isFit_11 : decode cX7_isFit 11 = .ok (.bipush 88, 2) := by decide +kernel
theorem dX7_isFit_13 : decode cX7_isFit 13 = .ok (.iaload, 1) := by decide +kernel
theorem dX7_isFit_14 : decode cX7_isFit 14 = .ok (.if_icmp .ge 38, 3) := by decide +kernel
theorem dX7_isFit_17 : decode cX7_isFit 17 = .ok (.iload_n 3, 1) := by decide +kernel
theorem dX7_isFit_18 : decode cX7_isFit 18 = .ok (.aload_n 0, 1) := by decide +kernel
theorem dX7_isFit_19 : decode cX7_isFit 19 = .ok (.getfield 7, 3) := by decide +kernel
theorem dX7_isFit_22 : decode cX7_isFit 22 = .ok (.bipush 90, 2) := by decide +kernel
theorem dX7_isFit_24 : decode cX7_isFit 24 = .ok (.iload 4, 2) := by decide +kernel
theorem dX7_isFit_26 : decode cX7_isFit 26 = .ok (.iadd, 1) := by decide +kernel
theorem dX7_isFit_27 : decode cX7_isFit 27 = .ok (.iaload, 1) := by decide +kernel
theorem dX7_isFit_28 : decode cX7_isFit 28 = .ok (.iload_n 2, 1) := by decide +kernel
theorem dX7_isFit_29 : decode cX7_isFit 29 = .ok (.iload 4, 2) := by decide +kernel
theorem dX7_isFit_31 : decode cX7_isFit 31 = .ok (.bipush 23, 2) := by decide +kernel
theorem dX7_isFit_33 : decode cX7_isFit 33 = .ok (.invokestatic 40, 3) := by decide +kernel
theorem dX7_isFit_36 : decode cX7_isFit 36 = .ok (.bipush 47, 2) := by decide +kernel
theorem dX7_isFit_38 : decode cX7_isFit 38 = .ok (.invokestatic 40, 3) := by decide +kernel
theorem dX7_isFit_41 : decode cX7_isFit 41 = .ok (.imul, 1) := by decide +kernel
theorem dX7_isFit_42 : decode cX7_isFit 42 = .ok (.bipush 47, 2) := by decide +kernel
theorem dX7_isFit_44 : decode cX7_isFit 44 = .ok (.irem, 1) := by decide +kernel
theorem dX7_isFit_45 : decode cX7_isFit 45 = .ok (.istore_n 3, 1) := by decide +kernel
theorem dX7_isFit_46 : decode cX7_isFit 46 = .ok (.iinc 4 1, 3) := by decide +kernel
theorem dX7_isFit_49 : decode cX7_isFit 49 = .ok (.goto (-44), 3) := by decide +kernel
theorem dX7_isFit_52 : decode cX7_isFit 52 = .ok (.iload_n 3, 1) := by decide +kernel
theorem dX7_isFit_53 : decode cX7_isFit 53 = .ok (.iload_n 1, 1) := by decide +kernel
theorem dX7_isFit_54 : decode cX7_isFit 54 = .ok (.invokestatic 58, 3) := by decide +kernel
theorem dX7_isFit_57 : decode cX7_isFit 57 = .ok (.if_icmp .ne 7, 3) := by decide +kernel
theorem dX7_isFit_60 : decode cX7_isFit 60 = .ok (.iconst 1, 1) := by decide +kernel
theorem dX7_isFit_61 : decode cX7_isFit 61 = .ok (.goto 4, 3) := by decide +kernel
theorem dX7_isFit_64 : decode cX7_isFit 64 = .ok (.iconst 0, 1) := by decide +kernel
theorem dX7_isFit_65 : decode cX7_isFit 65 = .ok (.ireturn, 1) := by decide +kernel
set_option maxRecDepth 20000 in
theorem ggX7_member_X7_isMember : GoodIn wsX7_member wsX7_isMember := goodIn_r _ [5, 6, 7, 4, 8] (by decide +kernel) (by decide +kernel)
set_option maxRecDepth 20000 in
theorem gX7_member_X7_isMember : GoodIn wsX7_member (va_wsS RX7 48 yX7_isMember wsX7_isMember) := goodIn_app (goodIn_of _ (by decide +kernel)) ggX7_member_X7_isMember
set_option maxRecDepth 20000 in
theorem ggX7_member_X7_in : GoodIn wsX7_member wsX7_in := goodIn_r _ [8] (by decide +kernel) (by decide +kernel)
set_option maxRecDepth 20000 in
theorem gX7_member_X7_in : GoodIn wsX7_member (va_wsS RX7 36 yX7_in wsX7_in) := goodIn_app (goodIn_of _ (by decide +kernel)) ggX7_member_X7_in
set_option maxRecDepth 20000 in
theorem ggX7_member_X7_bentOf : GoodIn wsX7_member wsX7_bentOf := goodIn_r _ [12, 1, 13, 14, 4, 15, 37, 38, 39, 40, 41, 42, 43, 44, 45] (by decide +kernel) (by decide +kernel)
set_option maxRecDepth 20000 in
theorem gX7_member_X7_bentOf : GoodIn wsX7_member (wsV RX7 51 RX7 yX7_bentOf wsX7_bentOf) := goodIn_app (goodIn_of _ (by decide +kernel)) ggX7_member_X7_bentOf
set_option maxRecDepth 20000 in
theorem ggX7_member_X7_hasShare : GoodIn wsX7_member wsX7_hasShare := goodIn_r _ [19, 1, 37, 38, 39, 40, 41, 42, 43, 44, 45] (by decide +kernel) (by decide +kernel)
set_option maxRecDepth 20000 in
theorem gX7_member_X7_hasShare : GoodIn wsX7_member (wsV RX7 61 RX7 yX7_hasShare wsX7_hasShare) := goodIn_app (goodIn_of _ (by decide +kernel)) ggX7_member_X7_hasShare
set_option maxRecDepth 20000 in
theorem ggX7_member_X7_told : GoodIn wsX7_member wsX7_told := goodIn_r _ [23, 1, 9, 10, 11, 4, 12, 13, 14, 15, 24, 25, 26, 37, 38, 39, 40, 41, 42, 43, 44, 45] (by decide +kernel) (by decide +kernel)
set_option maxRecDepth 20000 in
theorem gX7_member_X7_told : GoodIn wsX7_member (wsV RX7 64 RX7 yX7_told wsX7_told) := goodIn_app (goodIn_of _ (by decide +kernel)) ggX7_member_X7_told
set_option maxRecDepth 20000 in
theorem ggX7_member_X7_isFit : GoodIn wsX7_member wsX7_isFit := goodIn_r _ [30, 1, 31, 32, 4, 33, 34, 35, 36, 37, 38, 39, 40, 41, 42, 43, 44, 45] (by decide +kernel) (by decide +kernel)
set_option maxRecDepth 20000 in
theorem gX7_member_X7_isFit : GoodIn wsX7_member (wsV RX7 67 RX7 yX7_isFit wsX7_isFit) := goodIn_app (goodIn_of _ (by decide +kernel)) ggX7_member_X7_isFit
theorem dX7_member_0 : decode cX7_member 0 = .ok (.iload_n 1, 1) := by decide +kernel
theorem dX7_member_1 : decode cX7_member 1 = .ok (.invokestatic 48, 3) := by decide +kernel
theorem dX7_member_4 : decode cX7_member 4 = .ok (.ifCond .ne 5, 3) := by decide +kernel
theorem dX7_member_7 : decode cX7_member 7 = .ok (.iconst (-1), 1) := by decide +kernel
theorem dX7_member_8 : decode cX7_member 8 = .ok (.ireturn, 1) := by decide +kernel
theorem dX7_member_9 : decode cX7_member 9 = .ok (.iload_n 2, 1) := by decide +kernel
theorem dX7_member_10 : decode cX7_member 10 = .ok (.iconst 3, 1) := by decide +kernel
theorem dX7_member_11 : decode cX7_member 11 = .ok (.bipush 7, 2) := by decide +kernel
theorem dX7_member_13 : decode cX7_member 13 = .ok (.invokestatic 36, 3) := by decide +kernel
theorem dX7_member_16 : decode cX7_member 16 = .ok (.ifCond .eq 12, 3) := by decide +kernel
theorem dX7_member_19 : decode cX7_member 19 = .ok (.aload_n 0, 1) := by decide +kernel
theorem dX7_member_20 : decode cX7_member 20 = .ok (.iload_n 1, 1) := by decide +kernel
theorem dX7_member_21 : decode cX7_member 21 = .ok (.iload_n 2, 1) := by decide +kernel
theorem dX7_member_22 : decode cX7_member 22 = .ok (.iconst 3, 1) := by decide +kernel
theorem dX7_member_23 : decode cX7_member 23 = .ok (.isub, 1) := by decide +kernel
theorem dX7_member_24 : decode cX7_member 24 = .ok (.invokevirtual 51, 3) := by decide +kernel
theorem dX7_member_27 : decode cX7_member 27 = .ok (.ireturn, 1) := by decide +kernel
theorem dX7_member_28 : decode cX7_member 28 = .ok (.iload_n 2, 1) := by decide +kernel
theorem dX7_member_29 : decode cX7_member 29 = .ok (.bipush 10, 2) := by decide +kernel
theorem dX7_member_31 : decode cX7_member 31 = .ok (.bipush 14, 2) := by decide +kernel
theorem dX7_member_33 : decode cX7_member 33 = .ok (.invokestatic 36, 3) := by decide +kernel
theorem dX7_member_36 : decode cX7_member 36 = .ok (.ifCond .eq 19, 3) := by decide +kernel
theorem dX7_member_39 : decode cX7_member 39 = .ok (.aload_n 0, 1) := by decide +kernel
theorem dX7_member_40 : decode cX7_member 40 = .ok (.getfield 7, 3) := by decide +kernel
theorem dX7_member_43 : decode cX7_member 43 = .ok (.iconst 0, 1) := by decide +kernel
theorem dX7_member_44 : decode cX7_member 44 = .ok (.iconst 5, 1) := by decide +kernel
theorem dX7_member_45 : decode cX7_member 45 = .ok (.iload_n 1, 1) := by decide +kernel
theorem dX7_member_46 : decode cX7_member 46 = .ok (.imul, 1) := by decide +kernel
theorem dX7_member_47 : decode cX7_member 47 = .ok (.iadd, 1) := by decide +kernel
theorem dX7_member_48 : decode cX7_member 48 = .ok (.iload_n 2, 1) := by decide +kernel
theorem dX7_member_49 : decode cX7_member 49 = .ok (.iadd, 1) := by decide +kernel
theorem dX7_member_50 : decode cX7_member 50 = .ok (.bipush 10, 2) := by decide +kernel
theorem dX7_member_52 : decode cX7_member 52 = .ok (.isub, 1) := by decide +kernel
theorem dX7_member_53 : decode cX7_member 53 = .ok (.iaload, 1) := by decide +kernel
theorem dX7_member_54 : decode cX7_member 54 = .ok (.ireturn, 1) := by decide +kernel
theorem dX7_member_55 : decode cX7_member 55 = .ok (.iload_n 2, 1) := by decide +kernel
theorem dX7_member_56 : decode cX7_member 56 = .ok (.iconst 0, 1) := by decide +kernel
theorem dX7_member_57 : decode cX7_member 57 = .ok (.iconst 2, 1) := by decide +kernel
theorem dX7_member_58 : decode cX7_member 58 = .ok (.invokestatic 36, 3) := by decide +kernel
theorem dX7_member_61 : decode cX7_member 61 = .ok (.ifCond .ne 6, 3) := by decide +kernel
theorem dX7_member_64 : decode cX7_member 64 = .ok (.bipush (-2), 2) := by decide +kernel
theorem dX7_member_66 : decode cX7_member 66 = .ok (.ireturn, 1) := by decide +kernel
theorem dX7_member_67 : decode cX7_member 67 = .ok (.aload_n 0, 1) := by decide +kernel
theorem dX7_member_68 : decode cX7_member 68 = .ok (.iload_n 1, 1) := by decide +kernel
theorem dX7_member_69 : decode cX7_member 69 = .ok (.invokevirtual 61, 3) := by decide +kernel
theorem dX7_member_72 : decode cX7_member 72 = .ok (.ifCond .ne 6, 3) := by decide +kernel
theorem dX7_member_75 : decode cX7_member 75 = .ok (.bipush (-6), 2) := by decide +kernel
theorem dX7_member_77 : decode cX7_member 77 = .ok (.ireturn, 1) := by decide +kernel
theorem dX7_member_78 : decode cX7_member 78 = .ok (.iload_n 2, 1) := by decide +kernel
theorem dX7_member_79 : decode cX7_member 79 = .ok (.ifCond .ne 15, 3) := by decide +kernel
theorem dX7_member_82 : decode cX7_member 82 = .ok (.aload_n 0, 1) := by decide +kernel
theorem dX7_member_83 : decode cX7_member 83 = .ok (.getfield 7, 3) := by decide +kernel
theorem dX7_member_86 : decode cX7_member 86 = .ok (.bipush 40, 2) := by decide +kernel
theorem dX7_member_88 : decode cX7_member 88 = .ok (.iload_n 1, 1) := by decide +kernel
theorem dX7_member_89 : decode cX7_member 89 = .ok (.iadd, 1) := by decide +kernel
theorem dX7_member_90 : decode cX7_member 90 = .ok (.iaload, 1) := by decide +kernel
theorem dX7_member_91 : decode cX7_member 91 = .ok (.goto 34, 3) := by decide +kernel
theorem dX7_member_94 : decode cX7_member 94 = .ok (.iload_n 2, 1) := by decide +kernel
theorem dX7_member_95 : decode cX7_member 95 = .ok (.iconst 1, 1) := by decide +kernel
theorem dX7_member_96 : decode cX7_member 96 = .ok (.if_icmp .ne 11, 3) := by decide +kernel
theorem dX7_member_99 : decode cX7_member 99 = .ok (.aload_n 0, 1) := by decide +kernel
theorem dX7_member_100 : decode cX7_member 100 = .ok (.iload_n 1, 1) := by decide +kernel
theorem dX7_member_101 : decode cX7_member 101 = .ok (.invokevirtual 64, 3) := by decide +kernel
theorem dX7_member_104 : decode cX7_member 104 = .ok (.goto 21, 3) := by decide +kernel
theorem dX7_member_107 : decode cX7_member 107 = .ok (.aload_n 0, 1) := by decide +kernel
theorem dX7_member_108 : decode cX7_member 108 = .ok (.aload_n 0, 1) := by decide +kernel
theorem dX7_member_109 : decode cX7_member 109 = .ok (.iload_n 1, 1) := by decide +kernel
theorem dX7_member_110 : decode cX7_member 110 = .ok (.invokevirtual 64, 3) := by decide +kernel
theorem dX7_member_113 : decode cX7_member 113 = .ok (.iload_n 1, 1) := by decide +kernel
theorem dX7_member_114 : decode cX7_member 114 = .ok (.invokevirtual 67, 3) := by decide +kernel
theorem dX7_member_117 : decode cX7_member 117 = .ok (.ifCond .eq 7, 3) := by decide +kernel
theorem dX7_member_120 : decode cX7_member 120 = .ok (.iconst 1, 1) := by decide +kernel
theorem dX7_member_121 : decode cX7_member 121 = .ok (.goto 4, 3) := by decide +kernel
theorem dX7_member_124 : decode cX7_member 124 = .ok (.iconst 0, 1) := by decide +kernel
theorem dX7_member_125 : decode cX7_member 125 = .ok (.ireturn, 1) := by decide +kernel
set_option maxRecDepth 20000 in
theorem ggX7_say_X7_in : GoodIn wsX7_say wsX7_in := goodIn_r _ [6] (by decide +kernel) (by decide +kernel)
set_option maxRecDepth 20000 in
theorem gX7_say_X7_in : GoodIn wsX7_say (va_wsS RX7 36 yX7_in wsX7_in) := goodIn_app (goodIn_of _ (by decide +kernel)) ggX7_say_X7_in
theorem dX7_say_0 : decode cX7_say 0 = .ok (.iload_n 1, 1) := by decide +kernel
theorem dX7_say_1 : decode cX7_say 1 = .ok (.bipush 33, 2) := by decide +kernel
theorem dX7_say_3 : decode cX7_say 3 = .ok (.bipush 126, 2) := by decide +kernel
theorem dX7_say_5 : decode cX7_say 5 = .ok (.invokestatic 36, 3) := by decide +kernel
theorem dX7_say_8 : decode cX7_say 8 = .ok (.ifCond .ne 6, 3) := by decide +kernel
theorem dX7_say_11 : decode cX7_say 11 = .ok (.bipush (-2), 2) := by decide +kernel
theorem dX7_say_13 : decode cX7_say 13 = .ok (.ireturn, 1) := by decide +kernel
theorem dX7_say_14 : decode cX7_say 14 = .ok (.aload_n 0, 1) := by decide +kernel
theorem dX7_say_15 : decode cX7_say 15 = .ok (.getfield 71, 3) := by decide +kernel
theorem dX7_say_18 : decode cX7_say 18 = .ok (.bipush 10, 2) := by decide +kernel
theorem dX7_say_20 : decode cX7_say 20 = .ok (.if_icmp .ne 6, 3) := by decide +kernel
theorem dX7_say_23 : decode cX7_say 23 = .ok (.bipush (-4), 2) := by decide +kernel
theorem dX7_say_25 : decode cX7_say 25 = .ok (.ireturn, 1) := by decide +kernel
theorem dX7_say_26 : decode cX7_say 26 = .ok (.aload_n 0, 1) := by decide +kernel
theorem dX7_say_27 : decode cX7_say 27 = .ok (.getfield 13, 3) := by decide +kernel
theorem dX7_say_30 : decode cX7_say 30 = .ok (.aload_n 0, 1) := by decide +kernel
theorem dX7_say_31 : decode cX7_say 31 = .ok (.getfield 71, 3) := by decide +kernel
theorem dX7_say_34 : decode cX7_say 34 = .ok (.iload_n 1, 1) := by decide +kernel
theorem dX7_say_35 : decode cX7_say 35 = .ok (.iastore, 1) := by decide +kernel
theorem dX7_say_36 : decode cX7_say 36 = .ok (.aload_n 0, 1) := by decide +kernel
theorem dX7_say_37 : decode cX7_say 37 = .ok (.dup, 1) := by decide +kernel
theorem dX7_say_38 : decode cX7_say 38 = .ok (.getfield 71, 3) := by decide +kernel
theorem dX7_say_41 : decode cX7_say 41 = .ok (.iconst 1, 1) := by decide +kernel
theorem dX7_say_42 : decode cX7_say 42 = .ok (.iadd, 1) := by decide +kernel
theorem dX7_say_43 : decode cX7_say 43 = .ok (.putfield 71, 3) := by decide +kernel
theorem dX7_say_46 : decode cX7_say 46 = .ok (.aload_n 0, 1) := by decide +kernel
theorem dX7_say_47 : decode cX7_say 47 = .ok (.getfield 71, 3) := by decide +kernel
theorem dX7_say_50 : decode cX7_say 50 = .ok (.ireturn, 1) := by decide +kernel
theorem dX7_wipe_0 : decode cX7_wipe 0 = .ok (.aload_n 0, 1) := by decide +kernel
theorem dX7_wipe_1 : decode cX7_wipe 1 = .ok (.getfield 71, 3) := by decide +kernel
theorem dX7_wipe_4 : decode cX7_wipe 4 = .ok (.istore_n 1, 1) := by decide +kernel
theorem dX7_wipe_5 : decode cX7_wipe 5 = .ok (.aload_n 0, 1) := by decide +kernel
theorem dX7_wipe_6 : decode cX7_wipe 6 = .ok (.iconst 0, 1) := by decide +kernel
theorem dX7_wipe_7 : decode cX7_wipe 7 = .ok (.putfield 71, 3) := by decide +kernel
theorem dX7_wipe_10 : decode cX7_wipe 10 = .ok (.iload_n 1, 1) := by decide +kernel
theorem dX7_wipe_11 : decode cX7_wipe 11 = .ok (.ireturn, 1) := by decide +kernel
theorem dX7_figure_0 : decode cX7_figure 0 = .ok (.aload_n 0, 1) := by decide +kernel
theorem dX7_figure_1 : decode cX7_figure 1 = .ok (.getfield 13, 3) := by decide +kernel
theorem dX7_figure_4 : decode cX7_figure 4 = .ok (.iload_n 1, 1) := by decide +kernel
theorem dX7_figure_5 : decode cX7_figure 5 = .ok (.iaload, 1) := by decide +kernel
theorem dX7_figure_6 : decode cX7_figure 6 = .ok (.bipush 48, 2) := by decide +kernel
theorem dX7_figure_8 : decode cX7_figure 8 = .ok (.isub, 1) := by decide +kernel
theorem dX7_figure_9 : decode cX7_figure 9 = .ok (.ireturn, 1) := by decide +kernel
theorem dX7_leastOf_0 : decode cX7_leastOf 0 = .ok (.iload_n 0, 1) := by decide +kernel
theorem dX7_leastOf_1 : decode cX7_leastOf 1 = .ok (.tableswitch 109 98 119 #[107, 109, 105, 109, 103, 109, 109, 109, 109, 109, 109, 109, 109, 105, 109, 109, 109, 105, 107, 109, 109, 105], 103) := by decide +kernel
theorem dX7_leastOf_104 : decode cX7_leastOf 104 = .ok (.iconst 1, 1) := by decide +kernel
theorem dX7_leastOf_105 : decode cX7_leastOf 105 = .ok (.ireturn, 1) := by decide +kernel
theorem dX7_leastOf_106 : decode cX7_leastOf 106 = .ok (.iconst 2, 1) := by decide +kernel
theorem dX7_leastOf_107 : decode cX7_leastOf 107 = .ok (.ireturn, 1) := by decide +kernel
theorem dX7_leastOf_108 : decode cX7_leastOf 108 = .ok (.iconst 3, 1) := by decide +kernel
theorem dX7_leastOf_109 : decode cX7_leastOf 109 = .ok (.ireturn, 1) := by decide +kernel
theorem dX7_leastOf_110 : decode cX7_leastOf 110 = .ok (.iconst 0, 1) := by decide +kernel
theorem dX7_leastOf_111 : decode cX7_leastOf 111 = .ok (.ireturn, 1) := by decide +kernel
set_option maxRecDepth 20000 in
theorem ggX7_canStand_X7_figure : GoodIn wsX7_canStand wsX7_figure := goodIn_r _ [6, 1, 13, 14, 15, 16, 17, 18, 19, 20, 21] (by decide +kernel) (by decide +kernel)
set_option maxRecDepth 20000 in
theorem gX7_canStand_X7_figure : GoodIn wsX7_canStand (wsV RX7 75 RX7 yX7_figure wsX7_figure) := goodIn_app (goodIn_of _ (by decide +kernel)) ggX7_canStand_X7_figure
set_option maxRecDepth 20000 in
theorem ggX7_canStand_X7_in : GoodIn wsX7_canStand wsX7_in := goodIn_r _ [9] (by decide +kernel) (by decide +kernel)
set_option maxRecDepth 20000 in
theorem gX7_canStand_X7_in : GoodIn wsX7_canStand (va_wsS RX7 36 yX7_in wsX7_in) := goodIn_app (goodIn_of _ (by decide +kernel)) ggX7_canStand_X7_in
set_option maxRecDepth 20000 in
theorem ggX7_canStand_X7_isMember : GoodIn wsX7_canStand wsX7_isMember := goodIn_r _ [12, 7, 8, 5, 9] (by decide +kernel) (by decide +kernel)
set_option maxRecDepth 20000 in
theorem gX7_canStand_X7_isMember : GoodIn wsX7_canStand (va_wsS RX7 48 yX7_isMember wsX7_isMember) := goodIn_app (goodIn_of _ (by decide +kernel)) ggX7_canStand_X7_isMember
theorem dX7_canStand_0 : decode cX7_canStand 0 = .ok (.aload_n 0, 1) := by decide +kernel
theorem dX7_canStand_1 : decode cX7_canStand 1 = .ok (.iload_n 1, 1) := by decide +kernel
theorem dX7_canStand_2 : decode cX7_canStand 2 = .ok (.invokevirtual 75, 3) := by decide +kernel
theorem dX7_canStand_5 : decode cX7_canStand 5 = .ok (.istore_n 2, 1) := by decide +kernel
theorem dX7_canStand_6 : decode cX7_canStand 6 = .ok (.aload_n 0, 1) := by decide +kernel
theorem dX7_canStand_7 : decode cX7_canStand 7 = .ok (.getfield 13, 3) := by decide +kernel
theorem dX7_canStand_10 : decode cX7_canStand 10 = .ok (.iconst 0, 1) := by decide +kernel
theorem dX7_canStand_11 : decode cX7_canStand 11 = .ok (.iaload, 1) := by decide +kernel
theorem dX7_canStand_12 : decode cX7_canStand 12 = .ok (.lookupswitch 199 #[(98, 127), (100, 60), (111, 98), (115, 80), (116, 156), (119, 80)], 60) := by decide +kernel
theorem dX7_canStand_72 : decode cX7_canStand 72 = .ok (.iload_n 1, 1) := by decide +kernel
theorem dX7_canStand_73 : decode cX7_canStand 73 = .ok (.iconst 1, 1) := by decide +kernel
theorem dX7_canStand_74 : decode cX7_canStand 74 = .ok (.if_icmp .ne 16, 3) := by decide +kernel
theorem dX7_canStand_77 : decode cX7_canStand 77 = .ok (.iload_n 2, 1) := by decide +kernel
theorem dX7_canStand_78 : decode cX7_canStand 78 = .ok (.iconst 1, 1) := by decide +kernel
theorem dX7_canStand_79 : decode cX7_canStand 79 = .ok (.iconst 5, 1) := by decide +kernel
theorem dX7_canStand_80 : decode cX7_canStand 80 = .ok (.invokestatic 36, 3) := by decide +kernel
theorem dX7_canStand_83 : decode cX7_canStand 83 = .ok (.ifCond .eq 7, 3) := by decide +kernel
theorem dX7_canStand_86 : decode cX7_canStand 86 = .ok (.iconst 1, 1) := by decide +kernel
theorem dX7_canStand_87 : decode cX7_canStand 87 = .ok (.goto 4, 3) := by decide +kernel
theorem dX7_canStand_90 : decode cX7_canStand 90 = .ok (.iconst 0, 1) := by decide +kernel
theorem dX7_canStand_91 : decode cX7_canStand 91 = .ok (.ireturn, 1) := by decide +kernel
theorem dX7_canStand_92 : decode cX7_canStand 92 = .ok (.iload_n 1, 1) := by decide +kernel
theorem dX7_canStand_93 : decode cX7_canStand 93 = .ok (.iconst 1, 1) := by decide +kernel
theorem dX7_canStand_94 : decode cX7_canStand 94 = .ok (.if_icmp .ne 14, 3) := by decide +kernel
theorem dX7_canStand_97 : decode cX7_canStand 97 = .ok (.iload_n 2, 1) := by decide +kernel
theorem dX7_canStand_98 : decode cX7_canStand 98 = .ok (.invokestatic 48, 3) := by decide +kernel
theorem dX7_canStand_101 : decode cX7_canStand 101 = .ok (.ifCond .eq 7, 3) := by decide +kernel
theorem dX7_canStand_104 : decode cX7_canStand 104 = .ok (.iconst 1, 1) := by decide +kernel
theorem dX7_canStand_105 : decode cX7_canStand 105 = .ok (.goto 4, 3) := by decide +kernel
theorem dX7_canStand_108 : decode cX7_canStand 108 = .ok (.iconst 0, 1) := by decide +kernel
theorem dX7_canStand_109 : decode cX7_canStand 109 = .ok (.ireturn, 1) := by decide +kernel
theorem dX7_canStand_110 : decode cX7_canStand 110 = .ok (.iload_n 2, 1) := by decide +kernel
theorem dX7_canStand_111 : decode cX7_canStand 111 = .ok (.invokestatic 48, 3) := by decide +kernel
theorem dX7_canStand_114 : decode cX7_canStand 114 = .ok (.ifCond .eq 23, 3) := by decide +kernel
theorem dX7_canStand_117 : decode cX7_canStand 117 = .ok (.iload_n 1, 1) := by decide +kernel
theorem dX7_canStand_118 : decode cX7_canStand 118 = .ok (.iconst 1, 1) := by decide +kernel
theorem dX7_canStand_119 : decode cX7_canStand 119 = .ok (.if_icmp .eq 14, 3) := by decide +kernel
theorem dX7_canStand_122 : decode cX7_canStand 122 = .ok (.iload_n 2, 1) := by decide +kernel
theorem dX7_canStand_123 : decode cX7_canStand 123 = .ok (.aload_n 0, 1) := by decide +kernel
theorem dX7_canStand_124 : decode cX7_canStand 124 = .ok (.iload_n 1, 1) := by decide +kernel
theorem dX7_canStand_125 : decode cX7_canStand 125 = .ok (.iconst 1, 1) := by decide +kernel
theorem dX7_canStand_126 : decode cX7_canStand 126 = .ok (.isub, 1) := by decide +kernel
theorem dX7_canStand_127 : decode cX7_canStand 127 = .ok (.invokevirtual 75, 3) := by decide +kernel
theorem dX7_canStand_130 : decode cX7_canStand 130 = .ok (.if_icmp .le 7, 3) := by decide +kernel
theorem dX7_canStand_133 : decode cX7_canStand 133 = .ok (.iconst 1, 1) := by decide +kernel
theorem dX7_canStand_134 : decode cX7_canStand 134 = .ok (.goto 4, 3) := by decide +kernel
theorem dX7_canStand_137 : decode cX7_canStand 137 = .ok (.iconst 0, 1) := by decide +kernel
theorem dX7_canStand_138 : decode cX7_canStand 138 = .ok (.ireturn, 1) := by decide +kernel
theorem dX7_canStand_139 : decode cX7_canStand 139 = .ok (.iload_n 2, 1) := by decide +kernel
theorem dX7_canStand_140 : decode cX7_canStand 140 = .ok (.invokestatic 48, 3) := by decide +kernel
theorem dX7_canStand_143 : decode cX7_canStand 143 = .ok (.ifCond .eq 23, 3) := by decide +kernel
theorem dX7_canStand_146 : decode cX7_canStand 146 = .ok (.iload_n 1, 1) := by decide +kernel
theorem dX7_canStand_147 : decode cX7_canStand 147 = .ok (.iconst 3, 1) := by decide +kernel
theorem dX7_canStand_148 : decode cX7_canStand 148 = .ok (.if_icmp .lt 14, 3) := by decide +kernel
theorem dX7_canStand_151 : decode cX7_canStand 151 = .ok (.iload_n 2, 1) := by decide +kernel
theorem dX7_canStand_152 : decode cX7_canStand 152 = .ok (.aload_n 0, 1) := by decide +kernel
theorem dX7_canStand_153 : decode cX7_canStand 153 = .ok (.iload_n 1, 1) := by decide +kernel
theorem dX7_canStand_154 : decode cX7_canStand 154 = .ok (.iconst 1, 1) := by decide +kernel
theorem dX7_canStand_155 : decode cX7_canStand 155 = .ok (.isub, 1) := by decide +kernel
theorem dX7_canStand_156 : decode cX7_canStand 156 = .ok (.invokevirtual 75, 3) := by decide +kernel
theorem dX7_canStand_159 : decode cX7_canStand 159 = .ok (.if_icmp .le 7, 3) := by decide +kernel
theorem dX7_canStand_162 : decode cX7_canStand 162 = .ok (.iconst 1, 1) := by decide +kernel
theorem dX7_canStand_163 : decode cX7_canStand 163 = .ok (.goto 4, 3) := by decide +kernel
theorem dX7_canStand_166 : decode cX7_canStand 166 = .ok (.iconst 0, 1) := by decide +kernel
theorem dX7_canStand_167 : decode cX7_canStand 167 = .ok (.ireturn, 1) := by decide +kernel
theorem dX7_canStand_168 : decode cX7_canStand 168 = .ok (.iload_n 1, 1) := by decide +kernel
theorem dX7_canStand_169 : decode cX7_canStand 169 = .ok (.iconst 1, 1) := by decide +kernel
theorem dX7_canStand_170 : decode cX7_canStand 170 = .ok (.if_icmp .ne 12, 3) := by decide +kernel
theorem dX7_canStand_173 : decode cX7_canStand 173 = .ok (.iload_n 2, 1) := by decide +kernel
theorem dX7_canStand_174 : decode cX7_canStand 174 = .ok (.iconst 1, 1) := by decide +kernel
theorem dX7_canStand_175 : decode cX7_canStand 175 = .ok (.iconst 5, 1) := by decide +kernel
theorem dX7_canStand_176 : decode cX7_canStand 176 = .ok (.invokestatic 36, 3) := by decide +kernel
theorem dX7_canStand_179 : decode cX7_canStand 179 = .ok (.goto 31, 3) := by decide +kernel
theorem dX7_canStand_182 : decode cX7_canStand 182 = .ok (.iload_n 2, 1) := by decide +kernel
theorem dX7_canStand_183 : decode cX7_canStand 183 = .ok (.invokestatic 48, 3) := by decide +kernel
theorem dX7_canStand_186 : decode cX7_canStand 186 = .ok (.ifCond .eq 23, 3) := by decide +kernel
theorem dX7_canStand_189 : decode cX7_canStand 189 = .ok (.iload_n 1, 1) := by decide +kernel
theorem dX7_canStand_190 : decode cX7_canStand 190 = .ok (.iconst 2, 1) := by decide +kernel
theorem dX7_canStand_191 : decode cX7_canStand 191 = .ok (.if_icmp .eq 14, 3) := by decide +kernel
theorem dX7_canStand_194 : decode cX7_canStand 194 = .ok (.iload_n 2, 1) := by decide +kernel
theorem dX7_canStand_195 : decode cX7_canStand 195 = .ok (.aload_n 0, 1) := by decide +kernel
theorem dX7_canStand_196 : decode cX7_canStand 196 = .ok (.iload_n 1, 1) := by decide +kernel
theorem dX7_canStand_197 : decode cX7_canStand 197 = .ok (.iconst 1, 1) := by decide +kernel
theorem dX7_canStand_198 : decode cX7_canStand 198 = .ok (.isub, 1) := by decide +kernel
theorem dX7_canStand_199 : decode cX7_canStand 199 = .ok (.invokevirtual 75, 3) := by decide +kernel
theorem dX7_canStand_202 : decode cX7_canStand 202 = .ok (.if_icmp .le 7, 3) := by decide +kernel
theorem dX7_canStand_205 : decode cX7_canStand 205 = .ok (.iconst 1, 1) := by decide +kernel
theorem dX7_canStand_206 : decode cX7_canStand 206 = .ok (.goto 4, 3) := by decide +kernel
theorem dX7_canStand_209 : decode cX7_canStand 209 = .ok (.iconst 0, 1) := by decide +kernel
theorem dX7_canStand_210 : decode cX7_canStand 210 = .ok (.ireturn, 1) := by decide +kernel
theorem dX7_canStand_211 : decode cX7_canStand 211 = .ok (.iconst 0, 1) := by decide +kernel
theorem dX7_canStand_212 : decode cX7_canStand 212 = .ok (.ireturn, 1) := by decide +kernel
set_option maxRecDepth 20000 in
theorem ggX7_faultNow_X7_leastOf : GoodIn wsX7_faultNow wsX7_leastOf := goodIn_r _ [6] (by decide +kernel) (by decide +kernel)
set_option maxRecDepth 20000 in
theorem gX7_faultNow_X7_leastOf : GoodIn wsX7_faultNow (va_wsS RX7 78 yX7_leastOf wsX7_leastOf) := goodIn_app (goodIn_of _ (by decide +kernel)) ggX7_faultNow_X7_leastOf
set_option maxRecDepth 20000 in
theorem ggX7_faultNow_X7_canStand : GoodIn wsX7_faultNow wsX7_canStand := goodIn_r _ [10, 2, 11, 12, 13, 5, 14, 15, 16, 17, 18, 19, 20, 21, 22, 23, 24, 25, 26, 27, 28, 29] (by decide +kernel) (by decide +kernel)
set_option maxRecDepth 20000 in
theorem gX7_faultNow_X7_canStand : GoodIn wsX7_faultNow (wsV RX7 81 RX7 yX7_canStand wsX7_canStand) := goodIn_app (goodIn_of _ (by decide +kernel)) ggX7_faultNow_X7_canStand
theorem dX7_faultNow_0 : decode cX7_faultNow 0 = .ok (.aload_n 0, 1) := by decide +kernel
theorem dX7_faultNow_1 : decode cX7_faultNow 1 = .ok (.getfield 71, 3) := by decide +kernel
theorem dX7_faultNow_4 : decode cX7_faultNow 4 = .ok (.ifCond .eq 15, 3) := by decide +kernel
theorem dX7_faultNow_7 : decode cX7_faultNow 7 = .ok (.aload_n 0, 1) := by decide +kernel
theorem dX7_faultNow_8 : decode cX7_faultNow 8 = .ok (.getfield 13, 3) := by decide +kernel
theorem dX7_faultNow_11 : decode cX7_faultNow 11 = .ok (.iconst 0, 1) := by decide +kernel
theorem dX7_faultNow_12 : decode cX7_faultNow 12 = .ok (.iaload, 1) := by decide +kernel
theorem dX7_faultNow_13 : decode cX7_faultNow 13 = .ok (.invokestatic 78, 3) := by decide +kernel
theorem dX7_faultNow_16 : decode cX7_faultNow 16 = .ok (.ifCond .ne 5, 3) := by decide +kernel
theorem dX7_faultNow_19 : decode cX7_faultNow 19 = .ok (.iconst 0, 1) := by decide +kernel
theorem dX7_faultNow_20 : decode cX7_faultNow 20 = .ok (.ireturn, 1) := by decide +kernel
theorem dX7_faultNow_21 : decode cX7_faultNow 21 = .ok (.iconst 1, 1) := by decide +kernel
theorem dX7_faultNow_22 : decode cX7_faultNow 22 = .ok (.istore_n 1, 1) := by decide +kernel
theorem dX7_faultNow_23 : decode cX7_faultNow 23 = .ok (.iload_n 1, 1) := by decide +kernel
theorem dX7_faultNow_24 : decode cX7_faultNow 24 = .ok (.aload_n 0, 1) := by decide +kernel
theorem dX7_faultNow_25 : decode cX7_faultNow 25 = .ok (.getfield 71, 3) := by decide +kernel
theorem dX7_faultNow_28 : decode cX7_faultNow 28 = .ok (.if_icmp .ge 19, 3) := by decide +kernel
theorem dX7_faultNow_31 : decode cX7_faultNow 31 = .ok (.aload_n 0, 1) := by decide +kernel
theorem dX7_faultNow_32 : decode cX7_faultNow 32 = .ok (.iload_n 1, 1) := by decide +kernel
theorem dX7_faultNow_33 : decode cX7_faultNow 33 = .ok (.invokevirtual 81, 3) := by decide +kernel
theorem dX7_faultNow_36 : decode cX7_faultNow 36 = .ok (.ifCond .ne 5, 3) := by decide +kernel
theorem dX7_faultNow_39 : decode cX7_faultNow 39 = .ok (.iload_n 1, 1) := by decide +kernel
theorem dX7_faultNow_40 : decode cX7_faultNow 40 = .ok (.ireturn, 1) := by decide +kernel
theorem dX7_faultNow_41 : decode cX7_faultNow 41 = .ok (.iinc 1 1, 3) := by decide +kernel
theorem dX7_faultNow_44 : decode cX7_faultNow 44 = .ok (.goto (-21), 3) := by decide +kernel
theorem dX7_faultNow_47 : decode cX7_faultNow 47 = .ok (.aload_n 0, 1) := by decide +kernel
theorem dX7_faultNow_48 : decode cX7_faultNow 48 = .ok (.getfield 71, 3) := by decide +kernel
theorem dX7_faultNow_51 : decode cX7_faultNow 51 = .ok (.aload_n 0, 1) := by decide +kernel
theorem dX7_faultNow_52 : decode cX7_faultNow 52 = .ok (.getfield 13, 3) := by decide +kernel
theorem dX7_faultNow_55 : decode cX7_faultNow 55 = .ok (.iconst 0, 1) := by decide +kernel
theorem dX7_faultNow_56 : decode cX7_faultNow 56 = .ok (.iaload, 1) := by decide +kernel
theorem dX7_faultNow_57 : decode cX7_faultNow 57 = .ok (.invokestatic 78, 3) := by decide +kernel
theorem dX7_faultNow_60 : decode cX7_faultNow 60 = .ok (.if_icmp .ge 10, 3) := by decide +kernel
theorem dX7_faultNow_63 : decode cX7_faultNow 63 = .ok (.aload_n 0, 1) := by decide +kernel
theorem dX7_faultNow_64 : decode cX7_faultNow 64 = .ok (.getfield 71, 3) := by decide +kernel
theorem dX7_faultNow_67 : decode cX7_faultNow 67 = .ok (.goto 5, 3) := by decide +kernel
theorem dX7_faultNow_70 : decode cX7_faultNow 70 = .ok (.bipush (-6), 2) := by decide +kernel
theorem dX7_faultNow_72 : decode cX7_faultNow 72 = .ok (.ireturn, 1) := by decide +kernel
set_option maxRecDepth 20000 in
theorem ggX7_fault_X7_faultNow : GoodIn wsX7_fault wsX7_faultNow := goodIn_r _ [5, 6, 7, 8, 9, 4, 10, 11, 12, 13, 14, 15, 16, 17, 18, 19, 20, 21, 22, 23, 24, 25, 26, 27, 28, 29, 30, 31, 32, 33] (by decide +kernel) (by decide +kernel)
set_option maxRecDepth 20000 in
theorem gX7_fault_X7_faultNow : GoodIn wsX7_fault (wsV RX7 84 RX7 yX7_faultNow wsX7_faultNow) := goodIn_app (goodIn_of _ (by decide +kernel)) ggX7_fault_X7_faultNow
theorem dX7_fault_0 : decode cX7_fault 0 = .ok (.aload_n 0, 1) := by decide +kernel
theorem dX7_fault_1 : decode cX7_fault 1 = .ok (.invokevirtual 84, 3) := by decide +kernel
theorem dX7_fault_4 : decode cX7_fault 4 = .ok (.ireturn, 1) := by decide +kernel
set_option maxRecDepth 20000 in
theorem ggX7_inverse_X7_mod : GoodIn wsX7_inverse wsX7_mod := goodIn_r _ [4] (by decide +kernel) (by decide +kernel)
set_option maxRecDepth 20000 in
theorem gX7_inverse_X7_mod : GoodIn wsX7_inverse (va_wsS RX7 54 yX7_mod wsX7_mod) := goodIn_app (goodIn_of _ (by decide +kernel)) ggX7_inverse_X7_mod
set_option maxRecDepth 20000 in
theorem ggX7_inverse_X7_power : GoodIn wsX7_inverse wsX7_power := goodIn_r _ [7] (by decide +kernel) (by decide +kernel)
set_option maxRecDepth 20000 in
theorem gX7_inverse_X7_power : GoodIn wsX7_inverse (va_wsS RX7 40 yX7_power wsX7_power) := goodIn_app (goodIn_of _ (by decide +kernel)) ggX7_inverse_X7_power
theorem dX7_inverse_0 : decode cX7_inverse 0 = .ok (.iload_n 0, 1) := by decide +kernel
theorem dX7_inverse_1 : decode cX7_inverse 1 = .ok (.invokestatic 54, 3) := by decide +kernel
theorem dX7_inverse_4 : decode cX7_inverse 4 = .ok (.bipush 21, 2) := by decide +kernel
theorem dX7_inverse_6 : decode cX7_inverse 6 = .ok (.bipush 23, 2) := by decide +kernel
theorem dX7_inverse_8 : decode cX7_inverse 8 = .ok (.invokestatic 40, 3) := by decide +kernel
theorem dX7_inverse_11 : decode cX7_inverse 11 = .ok (.ireturn, 1) := by decide +kernel
set_option maxRecDepth 20000 in
theorem ggX7_weight_X7_has : GoodIn wsX7_weight wsX7_has := goodIn_r _ [4] (by decide +kernel) (by decide +kernel)
set_option maxRecDepth 20000 in
theorem gX7_weight_X7_has : GoodIn wsX7_weight (va_wsS RX7 88 yX7_has wsX7_has) := goodIn_app (goodIn_of _ (by decide +kernel)) ggX7_weight_X7_has
set_option maxRecDepth 20000 in
theorem ggX7_weight_X7_mod : GoodIn wsX7_weight wsX7_mod := goodIn_r _ [7] (by decide +kernel) (by decide +kernel)
set_option maxRecDepth 20000 in
theorem gX7_weight_X7_mod : GoodIn wsX7_weight (va_wsS RX7 54 yX7_mod wsX7_mod) := goodIn_app (goodIn_of _ (by decide +kernel)) ggX7_weight_X7_mod
set_option maxRecDepth 20000 in
theorem ggX7_weight_X7_inverse : GoodIn wsX7_weight wsX7_inverse := goodIn_r _ [10, 5, 6, 3, 7, 11, 12, 13] (by decide +kernel) (by decide +kernel)
set_option maxRecDepth 20000 in
theorem gX7_weight_X7_inverse : GoodIn wsX7_weight (va_wsS RX7 91 yX7_inverse wsX7_inverse) := goodIn_app (goodIn_of _ (by decide +kernel)) ggX7_weight_X7_inverse
theorem dX7_weight_0 : decode cX7_weight 0 = .ok (.iconst 1, 1) := by decide +kernel
theorem dX7_weight_1 : decode cX7_weight 1 = .ok (.istore_n 3, 1) := by decide +kernel
theorem dX7_weight_2 : decode cX7_weight 2 = .ok (.iconst 1, 1) := by decide +kernel
theorem dX7_weight_3 : decode cX7_weight 3 = .ok (.istore 4, 2) := by decide +kernel
theorem dX7_weight_5 : decode cX7_weight 5 = .ok (.iload 4, 2) := by decide +kernel
theorem dX7_weight_7 : decode cX7_weight 7 = .ok (.bipush 7, 2) := by decide +kernel
theorem dX7_weight_9 : decode cX7_weight 9 = .ok (.if_icmp .gt 45, 3) := by decide +kernel
theorem dX7_weight_12 : decode cX7_weight 12 = .ok (.iload_n 1, 1) := by decide +kernel
theorem dX7_weight_13 : decode cX7_weight 13 = .ok (.iload 4, 2) := by decide +kernel
theorem dX7_weight_15 : decode cX7_weight 15 = .ok (.invokestatic 88, 3) := by decide +kernel
theorem dX7_weight_18 : decode cX7_weight 18 = .ok (.ifCond .eq 30, 3) := by decide +kernel
theorem dX7_weight_21 : decode cX7_weight 21 = .ok (.iload 4, 2) := by decide +kernel
theorem dX7_weight_23 : decode cX7_weight 23 = .ok (.iload_n 0, 1) := by decide +kernel
theorem dX7_weight_24 : decode cX7_weight 24 = .ok (.if_icmp .eq 24, 3) := by decide +kernel
theorem dX7_weight_27 : decode cX7_weight 27 = .ok (.iload_n 3, 1) := by decide +kernel
theorem dX7_weight_28 : decode cX7_weight 28 = .ok (.iload_n 2, 1) := by decide +kernel
theorem dX7_weight_29 : decode cX7_weight 29 = .ok (.iload 4, 2) := by decide +kernel
theorem dX7_weight_31 : decode cX7_weight 31 = .ok (.isub, 1) := by decide +kernel
theorem dX7_weight_32 : decode cX7_weight 32 = .ok (.invokestatic 54, 3) := by decide +kernel
theorem dX7_weight_35 : decode cX7_weight 35 = .ok (.imul, 1) := by decide +kernel
theorem dX7_weight_36 : decode cX7_weight 36 = .ok (.iload_n 0, 1) := by decide +kernel
theorem dX7_weight_37 : decode cX7_weight 37 = .ok (.iload 4, 2) := by decide +kernel
theorem dX7_weight_39 : decode cX7_weight 39 = .ok (.isub, 1) := by decide +kernel
theorem dX7_weight_40 : decode cX7_weight 40 = .ok (.invokestatic 91, 3) := by decide +kernel
theorem dX7_weight_43 : decode cX7_weight 43 = .ok (.imul, 1) := by decide +kernel
theorem dX7_weight_44 : decode cX7_weight 44 = .ok (.invokestatic 54, 3) := by decide +kernel
theorem dX7_weight_47 : decode cX7_weight 47 = .ok (.istore_n 3, 1) := by decide +kernel
theorem dX7_weight_48 : decode cX7_weight 48 = .ok (.iinc 4 1, 3) := by decide +kernel
theorem dX7_weight_51 : decode cX7_weight 51 = .ok (.goto (-46), 3) := by decide +kernel
theorem dX7_weight_54 : decode cX7_weight 54 = .ok (.iload_n 3, 1) := by decide +kernel
theorem dX7_weight_55 : decode cX7_weight 55 = .ok (.ireturn, 1) := by decide +kernel
set_option maxRecDepth 20000 in
theorem ggX7_weighs_X7_in : GoodIn wsX7_weighs wsX7_in := goodIn_r _ [4] (by decide +kernel) (by decide +kernel)
set_option maxRecDepth 20000 in
theorem gX7_weighs_X7_in : GoodIn wsX7_weighs (va_wsS RX7 36 yX7_in wsX7_in) := goodIn_app (goodIn_of _ (by decide +kernel)) ggX7_weighs_X7_in
set_option maxRecDepth 20000 in
theorem ggX7_weighs_X7_isMember : GoodIn wsX7_weighs wsX7_isMember := goodIn_r _ [7, 1, 2, 3, 4] (by decide +kernel) (by decide +kernel)
set_option maxRecDepth 20000 in
theorem gX7_weighs_X7_isMember : GoodIn wsX7_weighs (va_wsS RX7 48 yX7_isMember wsX7_isMember) := goodIn_app (goodIn_of _ (by decide +kernel)) ggX7_weighs_X7_isMember
set_option maxRecDepth 20000 in
theorem ggX7_weighs_X7_has : GoodIn wsX7_weighs wsX7_has := goodIn_r _ [10] (by decide +kernel) (by decide +kernel)
set_option maxRecDepth 20000 in
theorem gX7_weighs_X7_has : GoodIn wsX7_weighs (va_wsS RX7 88 yX7_has wsX7_has) := goodIn_app (goodIn_of _ (by decide +kernel)) ggX7_weighs_X7_has
set_option maxRecDepth 20000 in
theorem ggX7_weighs_X7_weight : GoodIn wsX7_weighs wsX7_weight := goodIn_r _ [13, 8, 9, 3, 10, 14, 15, 16, 17, 18, 19, 20, 21, 22] (by decide +kernel) (by decide +kernel)
set_option maxRecDepth 20000 in
theorem gX7_weighs_X7_weight : GoodIn wsX7_weighs (va_wsS RX7 94 yX7_weight wsX7_weight) := goodIn_app (goodIn_of _ (by decide +kernel)) ggX7_weighs_X7_weight
theorem dX7_weighs_0 : decode cX7_weighs 0 = .ok (.iload_n 3, 1) := by decide +kernel
theorem dX7_weighs_1 : decode cX7_weighs 1 = .ok (.iconst 0, 1) := by decide +kernel
theorem dX7_weighs_2 : decode cX7_weighs 2 = .ok (.bipush 22, 2) := by decide +kernel
theorem dX7_weighs_4 : decode cX7_weighs 4 = .ok (.invokestatic 36, 3) := by decide +kernel
theorem dX7_weighs_7 : decode cX7_weighs 7 = .ok (.ifCond .eq 11, 3) := by decide +kernel
theorem dX7_weighs_10 : decode cX7_weighs 10 = .ok (.iload_n 2, 1) := by decide +kernel
theorem dX7_weighs_11 : decode cX7_weighs 11 = .ok (.sipush (-255), 3) := by decide +kernel
theorem dX7_weighs_14 : decode cX7_weighs 14 = .ok (.iand, 1) := by decide +kernel
theorem dX7_weighs_15 : decode cX7_weighs 15 = .ok (.ifCond .eq 6, 3) := by decide +kernel
theorem dX7_weighs_18 : decode cX7_weighs 18 = .ok (.bipush (-2), 2) := by decide +kernel
theorem dX7_weighs_20 : decode cX7_weighs 20 = .ok (.ireturn, 1) := by decide +kernel
theorem dX7_weighs_21 : decode cX7_weighs 21 = .ok (.iload_n 1, 1) := by decide +kernel
theorem dX7_weighs_22 : decode cX7_weighs 22 = .ok (.invokestatic 48, 3) := by decide +kernel
theorem dX7_weighs_25 : decode cX7_weighs 25 = .ok (.ifCond .eq 11, 3) := by decide +kernel
theorem dX7_weighs_28 : decode cX7_weighs 28 = .ok (.iload_n 2, 1) := by decide +kernel
theorem dX7_weighs_29 : decode cX7_weighs 29 = .ok (.iload_n 1, 1) := by decide +kernel
theorem dX7_weighs_30 : decode cX7_weighs 30 = .ok (.invokestatic 88, 3) := by decide +kernel
theorem dX7_weighs_33 : decode cX7_weighs 33 = .ok (.ifCond .ne 5, 3) := by decide +kernel
theorem dX7_weighs_36 : decode cX7_weighs 36 = .ok (.iconst (-1), 1) := by decide +kernel
theorem dX7_weighs_37 : decode cX7_weighs 37 = .ok (.ireturn, 1) := by decide +kernel
theorem dX7_weighs_38 : decode cX7_weighs 38 = .ok (.iload_n 1, 1) := by decide +kernel
theorem dX7_weighs_39 : decode cX7_weighs 39 = .ok (.iload_n 2, 1) := by decide +kernel
theorem dX7_weighs_40 : decode cX7_weighs 40 = .ok (.iload_n 3, 1) := by decide +kernel
theorem dX7_weighs_41 : decode cX7_weighs 41 = .ok (.invokestatic 94, 3) := by decide +kernel
theorem dX7_weighs_44 : decode cX7_weighs 44 = .ok (.ireturn, 1) := by decide +kernel
set_option maxRecDepth 20000 in
theorem ggX7_polyAt_X7_power : GoodIn wsX7_polyAt wsX7_power := goodIn_r _ [6] (by decide +kernel) (by decide +kernel)
set_option maxRecDepth 20000 in
theorem gX7_polyAt_X7_power : GoodIn wsX7_polyAt (va_wsS RX7 40 yX7_power wsX7_power) := goodIn_app (goodIn_of _ (by decide +kernel)) ggX7_polyAt_X7_power
theorem dX7_polyAt_0 : decode cX7_polyAt 0 = .ok (.iconst 0, 1) := by decide +kernel
theorem dX7_polyAt_1 : decode cX7_polyAt 1 = .ok (.istore_n 2, 1) := by decide +kernel
theorem dX7_polyAt_2 : decode cX7_polyAt 2 = .ok (.iconst 0, 1) := by decide +kernel
theorem dX7_polyAt_3 : decode cX7_polyAt 3 = .ok (.istore_n 3, 1) := by decide +kernel
theorem dX7_polyAt_4 : decode cX7_polyAt 4 = .ok (.iload_n 3, 1) := by decide +kernel
theorem dX7_polyAt_5 : decode cX7_polyAt 5 = .ok (.aload_n 0, 1) := by decide +kernel
theorem dX7_polyAt_6 : decode cX7_polyAt 6 = .ok (.getfield 97, 3) := by decide +kernel
theorem dX7_polyAt_9 : decode cX7_polyAt 9 = .ok (.if_icmp .ge 26, 3) := by decide +kernel
theorem dX7_polyAt_12 : decode cX7_polyAt 12 = .ok (.iload_n 2, 1) := by decide +kernel
theorem dX7_polyAt_13 : decode cX7_polyAt 13 = .ok (.aload_n 0, 1) := by decide +kernel
theorem dX7_polyAt_14 : decode cX7_polyAt 14 = .ok (.getfield 16, 3) := by decide +kernel
theorem dX7_polyAt_17 : decode cX7_polyAt 17 = .ok (.iload_n 3, 1) := by decide +kernel
theorem dX7_polyAt_18 : decode cX7_polyAt 18 = .ok (.iaload, 1) := by decide +kernel
theorem dX7_polyAt_19 : decode cX7_polyAt 19 = .ok (.iload_n 1, 1) := by decide +kernel
theorem dX7_polyAt_20 : decode cX7_polyAt 20 = .ok (.iload_n 3, 1) := by decide +kernel
theorem dX7_polyAt_21 : decode cX7_polyAt 21 = .ok (.bipush 23, 2) := by decide +kernel
theorem dX7_polyAt_23 : decode cX7_polyAt 23 = .ok (.invokestatic 40, 3) := by decide +kernel
theorem dX7_polyAt_26 : decode cX7_polyAt 26 = .ok (.imul, 1) := by decide +kernel
theorem dX7_polyAt_27 : decode cX7_polyAt 27 = .ok (.iadd, 1) := by decide +kernel
theorem dX7_polyAt_28 : decode cX7_polyAt 28 = .ok (.istore_n 2, 1) := by decide +kernel
theorem dX7_polyAt_29 : decode cX7_polyAt 29 = .ok (.iinc 3 1, 3) := by decide +kernel
theorem dX7_polyAt_32 : decode cX7_polyAt 32 = .ok (.goto (-28), 3) := by decide +kernel
theorem dX7_polyAt_35 : decode cX7_polyAt 35 = .ok (.iload_n 2, 1) := by decide +kernel
theorem dX7_polyAt_36 : decode cX7_polyAt 36 = .ok (.bipush 23, 2) := by decide +kernel
theorem dX7_polyAt_38 : decode cX7_polyAt 38 = .ok (.irem, 1) := by decide +kernel
theorem dX7_polyAt_39 : decode cX7_polyAt 39 = .ok (.ireturn, 1) := by decide +kernel
set_option maxRecDepth 20000 in
theorem ggX7_fitsPoly_X7_sealOf : GoodIn wsX7_fitsPoly wsX7_sealOf := goodIn_r _ [6, 7, 8, 5, 9] (by decide +kernel) (by decide +kernel)
set_option maxRecDepth 20000 in
theorem gX7_fitsPoly_X7_sealOf : GoodIn wsX7_fitsPoly (va_wsS RX7 58 yX7_sealOf wsX7_sealOf) := goodIn_app (goodIn_of _ (by decide +kernel)) ggX7_fitsPoly_X7_sealOf
set_option maxRecDepth 20000 in
theorem ggX7_fitsPoly_X7_power : GoodIn wsX7_fitsPoly wsX7_power := goodIn_r _ [9] (by decide +kernel) (by decide +kernel)
set_option maxRecDepth 20000 in
theorem gX7_fitsPoly_X7_power : GoodIn wsX7_fitsPoly (va_wsS RX7 40 yX7_power wsX7_power) := goodIn_app (goodIn_of _ (by decide +kernel)) ggX7_fitsPoly_X7_power
theorem dX7_fitsPoly_0 : decode cX7_fitsPoly 0 = .ok (.iconst 1, 1) := by decide +kernel
theorem dX7_fitsPoly_1 : decode cX7_fitsPoly 1 = .ok (.istore_n 3, 1) := by decide +kernel
theorem dX7_fitsPoly_2 : decode cX7_fitsPoly 2 = .ok (.iconst 0, 1) := by decide +kernel
theorem dX7_fitsPoly_3 : decode cX7_fitsPoly 3 = .ok (.istore 4, 2) := by decide +kernel
theorem dX7_fitsPoly_5 : decode cX7_fitsPoly 5 = .ok (.iload 4, 2) := by decide +kernel
theorem dX7_fitsPoly_7 : decode cX7_fitsPoly 7 = .ok (.aload_n 0, 1) := by decide +kernel
theorem dX7_fitsPoly_8 : decode cX7_fitsPoly 8 = .ok (.getfield 97, 3) := by decide +kernel
theorem dX7_fitsPoly_11 : decode cX7_fitsPoly 11 = .ok (.if_icmp .ge 38, 3) := by decide +kernel
theorem dX7_fitsPoly_14 : decode cX7_fitsPoly 14 = .ok (.iload_n 3, 1) := by decide +kernel
theorem dX7_fitsPoly_15 : decode cX7_fitsPoly 15 = .ok (.aload_n 0, 1) := by decide +kernel
theorem dX7_fitsPoly_16 : decode cX7_fitsPoly 16 = .ok (.getfield 16, 3) := by decide +kernel
theorem dX7_fitsPoly_19 : decode cX7_fitsPoly 19 = .ok (.iload 4, 2) := by decide +kernel
theorem dX7_fitsPoly_21 : decode cX7_fitsPoly 21 = .ok (.iaload, 1) := by decide +kernel
theorem dX7_fitsPoly_22 : decode cX7_fitsPoly 22 = .ok (.invokestatic 58, 3) := by decide +kernel
theorem dX7_fitsPoly_25 : decode cX7_fitsPoly 25 = .ok (.iload_n 2, 1) := by decide +kernel
theorem dX7_fitsPoly_26 : decode cX7_fitsPoly 26 = .ok (.iload 4, 2) := by decide +kernel
theorem dX7_fitsPoly_28 : decode cX7_fitsPoly 28 = .ok (.bipush 23, 2) := by decide +kernel
theorem dX7_fitsPoly_30 : decode cX7_fitsPoly 30 = .ok (.invokestatic 40, 3) := by decide +kernel
theorem dX7_fitsPoly_33 : decode cX7_fitsPoly 33 = .ok (.bipush 47, 2) := by decide +kernel
theorem dX7_fitsPoly_35 : decode cX7_fitsPoly 35 = .ok (.invokestatic 40, 3) := by decide +kernel
theorem dX7_fitsPoly_38 : decode cX7_fitsPoly 38 = .ok (.imul, 1) := by decide +kernel
theorem dX7_fitsPoly_39 : decode cX7_fitsPoly 39 = .ok (.bipush 47, 2) := by decide +kernel
theorem dX7_fitsPoly_41 : decode cX7_fitsPoly 41 = .ok (.irem, 1) := by decide +kernel
theorem dX7_fitsPoly_42 : decode cX7_fitsPoly 42 = .ok (.istore_n 3, 1) := by decide +kernel
theorem dX7_fitsPoly_43 : decode cX7_fitsPoly 43 = .ok (.iinc 4 1, 3) := by decide +kernel
theorem dX7_fitsPoly_46 : decode cX7_fitsPoly 46 = .ok (.goto (-41), 3) := by decide +kernel
theorem dX7_fitsPoly_49 : decode cX7_fitsPoly 49 = .ok (.iload_n 3, 1) := by decide +kernel
theorem dX7_fitsPoly_50 : decode cX7_fitsPoly 50 = .ok (.iload_n 1, 1) := by decide +kernel
theorem dX7_fitsPoly_51 : decode cX7_fitsPoly 51 = .ok (.invokestatic 58, 3) := by decide +kernel
theorem dX7_fitsPoly_54 : decode cX7_fitsPoly 54 = .ok (.if_icmp .ne 7, 3) := by decide +kernel
theorem dX7_fitsPoly_57 : decode cX7_fitsPoly 57 = .ok (.iconst 1, 1) := by decide +kernel
theorem dX7_fitsPoly_58 : decode cX7_fitsPoly 58 = .ok (.goto 4, 3) := by decide +kernel
theorem dX7_fitsPoly_61 : decode cX7_fitsPoly 61 = .ok (.iconst 0, 1) := by decide +kernel
theorem dX7_fitsPoly_62 : decode cX7_fitsPoly 62 = .ok (.ireturn, 1) := by decide +kernel
theorem dX7_layPoly_0 : decode cX7_layPoly 0 = .ok (.aload_n 0, 1) := by decide +kernel
theorem dX7_layPoly_1 : decode cX7_layPoly 1 = .ok (.iload_n 3, 1) := by decide +kernel
theorem dX7_layPoly_2 : decode cX7_layPoly 2 = .ok (.putfield 97, 3) := by decide +kernel
theorem dX7_layPoly_5 : decode cX7_layPoly 5 = .ok (.aload_n 0, 1) := by decide +kernel
theorem dX7_layPoly_6 : decode cX7_layPoly 6 = .ok (.getfield 16, 3) := by decide +kernel
theorem dX7_layPoly_9 : decode cX7_layPoly 9 = .ok (.iconst 0, 1) := by decide +kernel
theorem dX7_layPoly_10 : decode cX7_layPoly 10 = .ok (.iload_n 2, 1) := by decide +kernel
theorem dX7_layPoly_11 : decode cX7_layPoly 11 = .ok (.iastore, 1) := by decide +kernel
theorem dX7_layPoly_12 : decode cX7_layPoly 12 = .ok (.iconst 1, 1) := by decide +kernel
theorem dX7_layPoly_13 : decode cX7_layPoly 13 = .ok (.istore 4, 2) := by decide +kernel
theorem dX7_layPoly_15 : decode cX7_layPoly 15 = .ok (.iload 4, 2) := by decide +kernel
theorem dX7_layPoly_17 : decode cX7_layPoly 17 = .ok (.iload_n 3, 1) := by decide +kernel
theorem dX7_layPoly_18 : decode cX7_layPoly 18 = .ok (.if_icmp .ge 29, 3) := by decide +kernel
theorem dX7_layPoly_21 : decode cX7_layPoly 21 = .ok (.aload_n 0, 1) := by decide +kernel
theorem dX7_layPoly_22 : decode cX7_layPoly 22 = .ok (.getfield 16, 3) := by decide +kernel
theorem dX7_layPoly_25 : decode cX7_layPoly 25 = .ok (.iload 4, 2) := by decide +kernel
theorem dX7_layPoly_27 : decode cX7_layPoly 27 = .ok (.aload_n 0, 1) := by decide +kernel
theorem dX7_layPoly_28 : decode cX7_layPoly 28 = .ok (.getfield 7, 3) := by decide +kernel
theorem dX7_layPoly_31 : decode cX7_layPoly 31 = .ok (.iconst 0, 1) := by decide +kernel
theorem dX7_layPoly_32 : decode cX7_layPoly 32 = .ok (.iconst 5, 1) := by decide +kernel
theorem dX7_layPoly_33 : decode cX7_layPoly 33 = .ok (.iload_n 1, 1) := by decide +kernel
theorem dX7_layPoly_34 : decode cX7_layPoly 34 = .ok (.imul, 1) := by decide +kernel
theorem dX7_layPoly_35 : decode cX7_layPoly 35 = .ok (.iadd, 1) := by decide +kernel
theorem dX7_layPoly_36 : decode cX7_layPoly 36 = .ok (.iload 4, 2) := by decide +kernel
theorem dX7_layPoly_38 : decode cX7_layPoly 38 = .ok (.iadd, 1) := by decide +kernel
theorem dX7_layPoly_39 : decode cX7_layPoly 39 = .ok (.iaload, 1) := by decide +kernel
theorem dX7_layPoly_40 : decode cX7_layPoly 40 = .ok (.iastore, 1) := by decide +kernel
theorem dX7_layPoly_41 : decode cX7_layPoly 41 = .ok (.iinc 4 1, 3) := by decide +kernel
theorem dX7_layPoly_44 : decode cX7_layPoly 44 = .ok (.goto (-29), 3) := by decide +kernel
theorem dX7_layPoly_47 : decode cX7_layPoly 47 = .ok (.return_, 1) := by decide +kernel
set_option maxRecDepth 20000 in
theorem ggX7_having_X7_hasShare : GoodIn wsX7_having wsX7_hasShare := goodIn_r _ [5, 6, 7, 8, 9, 10, 11, 12, 13, 14, 15] (by decide +kernel) (by decide +kernel)
set_option maxRecDepth 20000 in
theorem gX7_having_X7_hasShare : GoodIn wsX7_having (wsV RX7 61 RX7 yX7_hasShare wsX7_hasShare) := goodIn_app (goodIn_of _ (by decide +kernel)) ggX7_having_X7_hasShare
theorem dX7_having_0 : decode cX7_having 0 = .ok (.iconst 0, 1) := by decide +kernel
theorem dX7_having_1 : decode cX7_having 1 = .ok (.istore_n 1, 1) := by decide +kernel
theorem dX7_having_2 : decode cX7_having 2 = .ok (.iconst 1, 1) := by decide +kernel
theorem dX7_having_3 : decode cX7_having 3 = .ok (.istore_n 2, 1) := by decide +kernel
theorem dX7_having_4 : decode cX7_having 4 = .ok (.iload_n 2, 1) := by decide +kernel
theorem dX7_having_5 : decode cX7_having 5 = .ok (.bipush 7, 2) := by decide +kernel
theorem dX7_having_7 : decode cX7_having 7 = .ok (.if_icmp .gt 27, 3) := by decide +kernel
theorem dX7_having_10 : decode cX7_having 10 = .ok (.iload_n 1, 1) := by decide +kernel
theorem dX7_having_11 : decode cX7_having 11 = .ok (.aload_n 0, 1) := by decide +kernel
theorem dX7_having_12 : decode cX7_having 12 = .ok (.iload_n 2, 1) := by decide +kernel
theorem dX7_having_13 : decode cX7_having 13 = .ok (.invokevirtual 61, 3) := by decide +kernel
theorem dX7_having_16 : decode cX7_having 16 = .ok (.ifCond .eq 9, 3) := by decide +kernel
theorem dX7_having_19 : decode cX7_having 19 = .ok (.iconst 1, 1) := by decide +kernel
theorem dX7_having_20 : decode cX7_having 20 = .ok (.iload_n 2, 1) := by decide +kernel
theorem dX7_having_21 : decode cX7_having 21 = .ok (.ishl, 1) := by decide +kernel
theorem dX7_having_22 : decode cX7_having 22 = .ok (.goto 4, 3) := by decide +kernel
theorem dX7_having_25 : decode cX7_having 25 = .ok (.iconst 0, 1) := by decide +kernel
theorem dX7_having_26 : decode cX7_having 26 = .ok (.ior, 1) := by decide +kernel
theorem dX7_having_27 : decode cX7_having 27 = .ok (.istore_n 1, 1) := by decide +kernel
theorem dX7_having_28 : decode cX7_having 28 = .ok (.iinc 2 1, 3) := by decide +kernel
theorem dX7_having_31 : decode cX7_having 31 = .ok (.goto (-27), 3) := by decide +kernel
theorem dX7_having_34 : decode cX7_having 34 = .ok (.iload_n 1, 1) := by decide +kernel
theorem dX7_having_35 : decode cX7_having 35 = .ok (.ireturn, 1) := by decide +kernel
theorem dX7_bits_0 : decode cX7_bits 0 = .ok (.iconst 0, 1) := by decide +kernel
theorem dX7_bits_1 : decode cX7_bits 1 = .ok (.istore_n 1, 1) := by decide +kernel
theorem dX7_bits_2 : decode cX7_bits 2 = .ok (.iconst 0, 1) := by decide +kernel
theorem dX7_bits_3 : decode cX7_bits 3 = .ok (.istore_n 2, 1) := by decide +kernel
theorem dX7_bits_4 : decode cX7_bits 4 = .ok (.iload_n 2, 1) := by decide +kernel
theorem dX7_bits_5 : decode cX7_bits 5 = .ok (.bipush 8, 2) := by decide +kernel
theorem dX7_bits_7 : decode cX7_bits 7 = .ok (.if_icmp .ge 17, 3) := by decide +kernel
theorem dX7_bits_10 : decode cX7_bits 10 = .ok (.iload_n 1, 1) := by decide +kernel
theorem dX7_bits_11 : decode cX7_bits 11 = .ok (.iload_n 0, 1) := by decide +kernel
theorem dX7_bits_12 : decode cX7_bits 12 = .ok (.iload_n 2, 1) := by decide +kernel
theorem dX7_bits_13 : decode cX7_bits 13 = .ok (.ishr, 1) := by decide +kernel
theorem dX7_bits_14 : decode cX7_bits 14 = .ok (.iconst 1, 1) := by decide +kernel
theorem dX7_bits_15 : decode cX7_bits 15 = .ok (.iand, 1) := by decide +kernel
theorem dX7_bits_16 : decode cX7_bits 16 = .ok (.iadd, 1) := by decide +kernel
theorem dX7_bits_17 : decode cX7_bits 17 = .ok (.istore_n 1, 1) := by decide +kernel
theorem dX7_bits_18 : decode cX7_bits 18 = .ok (.iinc 2 1, 3) := by decide +kernel
theorem dX7_bits_21 : decode cX7_bits 21 = .ok (.goto (-17), 3) := by decide +kernel
theorem dX7_bits_24 : decode cX7_bits 24 = .ok (.iload_n 1, 1) := by decide +kernel
theorem dX7_bits_25 : decode cX7_bits 25 = .ok (.ireturn, 1) := by decide +kernel
set_option maxRecDepth 20000 in
theorem ggX7_isStruck_X7_hasShare : GoodIn wsX7_isStruck wsX7_hasShare := goodIn_r _ [6, 1, 33, 34, 35, 36, 37, 38, 39, 40, 41] (by decide +kernel) (by decide +kernel)
set_option maxRecDepth 20000 in
theorem gX7_isStruck_X7_hasShare : GoodIn wsX7_isStruck (wsV RX7 61 RX7 yX7_hasShare wsX7_hasShare) := goodIn_app (goodIn_of _ (by decide +kernel)) ggX7_isStruck_X7_hasShare
set_option maxRecDepth 20000 in
theorem ggX7_isStruck_X7_polyAt : GoodIn wsX7_isStruck wsX7_polyAt := goodIn_r _ [10, 11, 12, 13, 14, 5, 15, 33, 34, 35, 36, 37, 38, 39, 40, 41] (by decide +kernel) (by decide +kernel)
set_option maxRecDepth 20000 in
theorem gX7_isStruck_X7_polyAt : GoodIn wsX7_isStruck (wsV RX7 100 RX7 yX7_polyAt wsX7_polyAt) := goodIn_app (goodIn_of _ (by decide +kernel)) ggX7_isStruck_X7_polyAt
set_option maxRecDepth 20000 in
theorem ggX7_isStruck_X7_bentOf : GoodIn wsX7_isStruck wsX7_bentOf := goodIn_r _ [19, 1, 20, 21, 5, 22, 33, 34, 35, 36, 37, 38, 39, 40, 41] (by decide +kernel) (by decide +kernel)
set_option maxRecDepth 20000 in
theorem gX7_isStruck_X7_bentOf : GoodIn wsX7_isStruck (wsV RX7 51 RX7 yX7_bentOf wsX7_bentOf) := goodIn_app (goodIn_of _ (by decide +kernel)) ggX7_isStruck_X7_bentOf
set_option maxRecDepth 20000 in
theorem ggX7_isStruck_X7_mod : GoodIn wsX7_isStruck wsX7_mod := goodIn_r _ [25] (by decide +kernel) (by decide +kernel)
set_option maxRecDepth 20000 in
theorem gX7_isStruck_X7_mod : GoodIn wsX7_isStruck (va_wsS RX7 54 yX7_mod wsX7_mod) := goodIn_app (goodIn_of _ (by decide +kernel)) ggX7_isStruck_X7_mod
set_option maxRecDepth 20000 in
theorem ggX7_isStruck_X7_fitsPoly : GoodIn wsX7_isStruck wsX7_fitsPoly := goodIn_r _ [29, 11, 12, 30, 31, 5, 32, 13, 14, 15, 33, 34, 35, 36, 37, 38, 39, 40, 41] (by decide +kernel) (by decide +kernel)
set_option maxRecDepth 20000 in
theorem gX7_isStruck_X7_fitsPoly : GoodIn wsX7_isStruck (wsV RX7 103 RX7 yX7_fitsPoly wsX7_fitsPoly) := goodIn_app (goodIn_of _ (by decide +kernel)) ggX7_isStruck_X7_fitsPoly
theorem dX7_isStruck_0 : decode cX7_isStruck 0 = .ok (.iconst 0, 1) := by decide +kernel
theorem dX7_isStruck_1 : decode cX7_isStruck 1 = .ok (.istore_n 2, 1) := by decide +kernel
theorem dX7_isStruck_2 : decode cX7_isStruck 2 = .ok (.iconst 0, 1) := by decide +kernel
theorem dX7_isStruck_3 : decode cX7_isStruck 3 = .ok (.istore_n 3, 1) := by decide +kernel
theorem dX7_isStruck_4 : decode cX7_isStruck 4 = .ok (.iconst 1, 1) := by decide +kernel
theorem dX7_isStruck_5 : decode cX7_isStruck 5 = .ok (.istore 4, 2) := by decide +kernel
theorem dX7_isStruck_7 : decode cX7_isStruck 7 = .ok (.iload 4, 2) := by decide +kernel
theorem dX7_isStruck_9 : decode cX7_isStruck 9 = .ok (.bipush 7, 2) := by decide +kernel
theorem dX7_isStruck_11 : decode cX7_isStruck 11 = .ok (.if_icmp .gt 120, 3) := by decide +kernel
theorem dX7_isStruck_14 : decode cX7_isStruck 14 = .ok (.aload_n 0, 1) := by decide +kernel
theorem dX7_isStruck_15 : decode cX7_isStruck 15 = .ok (.iload 4, 2) := by decide +kernel
theorem dX7_isStruck_17 : decode cX7_isStruck 17 = .ok (.invokevirtual 61, 3) := by decide +kernel
theorem dX7_isStruck_20 : decode cX7_isStruck 20 = .ok (.ifCond .eq 105, 3) := by decide +kernel
theorem dX7_isStruck_23 : decode cX7_isStruck 23 = .ok (.aload_n 0, 1) := by decide +kernel
theorem dX7_isStruck_24 : decode cX7_isStruck 24 = .ok (.iload 4, 2) := by decide +kernel
theorem dX7_isStruck_26 : decode cX7_isStruck 26 = .ok (.invokevirtual 100, 3) := by decide +kernel
theorem dX7_isStruck_29 : decode cX7_isStruck 29 = .ok (.aload_n 0, 1) := by decide +kernel
theorem dX7_isStruck_30 : decode cX7_isStruck 30 = .ok (.iload_n 1, 1) := by decide +kernel
theorem dX7_isStruck_31 : decode cX7_isStruck 31 = .ok (.iconst 2, 1) := by decide +kernel
theorem dX7_isStruck_32 : decode cX7_isStruck 32 = .ok (.invokevirtual 51, 3) := by decide +kernel
theorem dX7_isStruck_35 : decode cX7_isStruck 35 = .ok (.iload 4, 2) := by decide +kernel
theorem dX7_isStruck_37 : decode cX7_isStruck 37 = .ok (.if_icmp .ne 12, 3) := by decide +kernel
theorem dX7_isStruck_40 : decode cX7_isStruck 40 = .ok (.aload_n 0, 1) := by decide +kernel
theorem dX7_isStruck_41 : decode cX7_isStruck 41 = .ok (.iload_n 1, 1) := by decide +kernel
theorem dX7_isStruck_42 : decode cX7_isStruck 42 = .ok (.iconst 1, 1) := by decide +kernel
theorem dX7_isStruck_43 : decode cX7_isStruck 43 = .ok (.invokevirtual 51, 3) := by decide +kernel
theorem dX7_isStruck_46 : decode cX7_isStruck 46 = .ok (.goto 4, 3) := by decide +kernel
theorem dX7_isStruck_49 : decode cX7_isStruck 49 = .ok (.iconst 0, 1) := by decide +kernel
theorem dX7_isStruck_50 : decode cX7_isStruck 50 = .ok (.iadd, 1) := by decide +kernel
theorem dX7_isStruck_51 : decode cX7_isStruck 51 = .ok (.invokestatic 54, 3) := by decide +kernel
theorem dX7_isStruck_54 : decode cX7_isStruck 54 = .ok (.istore 5, 2) := by decide +kernel
theorem dX7_isStruck_56 : decode cX7_isStruck 56 = .ok (.aload_n 0, 1) := by decide +kernel
theorem dX7_isStruck_57 : decode cX7_isStruck 57 = .ok (.iload 5, 2) := by decide +kernel
theorem dX7_isStruck_59 : decode cX7_isStruck 59 = .ok (.iload 4, 2) := by decide +kernel
theorem dX7_isStruck_61 : decode cX7_isStruck 61 = .ok (.invokevirtual 103, 3) := by decide +kernel
theorem dX7_isStruck_64 : decode cX7_isStruck 64 = .ok (.istore 6, 2) := by decide +kernel
theorem dX7_isStruck_66 : decode cX7_isStruck 66 = .ok (.aload_n 0, 1) := by decide +kernel
theorem dX7_isStruck_67 : decode cX7_isStruck 67 = .ok (.iload 4, 2) := by decide +kernel
theorem dX7_isStruck_69 : decode cX7_isStruck 69 = .ok (.iconst 3, 1) := by decide +kernel
theorem dX7_isStruck_70 : decode cX7_isStruck 70 = .ok (.invokevirtual 51, 3) := by decide +kernel
theorem dX7_isStruck_73 : decode cX7_isStruck 73 = .ok (.iload_n 1, 1) := by decide +kernel
theorem dX7_isStruck_74 : decode cX7_isStruck 74 = .ok (.if_icmp .ne 7, 3) := by decide +kernel
theorem dX7_isStruck_77 : decode cX7_isStruck 77 = .ok (.iconst 1, 1) := by decide +kernel
theorem dX7_isStruck_78 : decode cX7_isStruck 78 = .ok (.goto 4, 3) := by decide +kernel
theorem dX7_isStruck_81 : decode cX7_isStruck 81 = .ok (.iconst 0, 1) := by decide +kernel
theorem dX7_isStruck_82 : decode cX7_isStruck 82 = .ok (.istore 7, 2) := by decide +kernel
theorem dX7_isStruck_84 : decode cX7_isStruck 84 = .ok (.iload_n 2, 1) := by decide +kernel
end
section
theorem dX7_isStruck_85 : decode cX7_isStruck 85 = .ok (.ifCond .ne 13, 3) := by decide +kernel
theorem dX7_isStruck_88 : decode cX7_isStruck 88 = .ok (.iload 6, 2) := by decide +kernel
theorem dX7_isStruck_90 : decode cX7_isStruck 90 = .ok (.ifCond .eq 8, 3) := by decide +kernel
theorem dX7_isStruck_93 : decode cX7_isStruck 93 = .ok (.iload 7, 2) := by decide +kernel
theorem dX7_isStruck_95 : decode cX7_isStruck 95 = .ok (.ifCond .eq 7, 3) := by decide +kernel
theorem dX7_isStruck_98 : decode cX7_isStruck 98 = .ok (.iconst 1, 1) := by decide +kernel
theorem dX7_isStruck_99 : decode cX7_isStruck 99 = .ok (.goto 4, 3) := by decide +kernel
theorem dX7_isStruck_102 : decode cX7_isStruck 102 = .ok (.iconst 0, 1) := by decide +kernel
theorem dX7_isStruck_103 : decode cX7_isStruck 103 = .ok (.istore_n 2, 1) := by decide +kernel
theorem dX7_isStruck_104 : decode cX7_isStruck 104 = .ok (.iload_n 3, 1) := by decide +kernel
theorem dX7_isStruck_105 : decode cX7_isStruck 105 = .ok (.iload 6, 2) := by decide +kernel
theorem dX7_isStruck_107 : decode cX7_isStruck 107 = .ok (.ifCond .eq 15, 3) := by decide +kernel
theorem dX7_isStruck_110 : decode cX7_isStruck 110 = .ok (.iload 7, 2) := by decide +kernel
theorem dX7_isStruck_112 : decode cX7_isStruck 112 = .ok (.ifCond .eq 10, 3) := by decide +kernel
theorem dX7_isStruck_115 : decode cX7_isStruck 115 = .ok (.iconst 1, 1) := by decide +kernel
theorem dX7_isStruck_116 : decode cX7_isStruck 116 = .ok (.iload 4, 2) := by decide +kernel
theorem dX7_isStruck_118 : decode cX7_isStruck 118 = .ok (.ishl, 1) := by decide +kernel
theorem dX7_isStruck_119 : decode cX7_isStruck 119 = .ok (.goto 4, 3) := by decide +kernel
theorem dX7_isStruck_122 : decode cX7_isStruck 122 = .ok (.iconst 0, 1) := by decide +kernel
theorem dX7_isStruck_123 : decode cX7_isStruck 123 = .ok (.ior, 1) := by decide +kernel
theorem dX7_isStruck_124 : decode cX7_isStruck 124 = .ok (.istore_n 3, 1) := by decide +kernel
theorem dX7_isStruck_125 : decode cX7_isStruck 125 = .ok (.iinc 4 1, 3) := by decide +kernel
theorem dX7_isStruck_128 : decode cX7_isStruck 128 = .ok (.goto (-121), 3) := by decide +kernel
theorem dX7_isStruck_131 : decode cX7_isStruck 131 = .ok (.iload_n 2, 1) := by decide +kernel
theorem dX7_isStruck_132 : decode cX7_isStruck 132 = .ok (.ifCond .eq 28, 3) := by decide +kernel
theorem dX7_isStruck_135 : decode cX7_isStruck 135 = .ok (.aload_n 0, 1) := by decide +kernel
theorem dX7_isStruck_136 : decode cX7_isStruck 136 = .ok (.iload_n 1, 1) := by decide +kernel
theorem dX7_isStruck_137 : decode cX7_isStruck 137 = .ok (.iconst 4, 1) := by decide +kernel
theorem dX7_isStruck_138 : decode cX7_isStruck 138 = .ok (.invokevirtual 51, 3) := by decide +kernel
theorem dX7_isStruck_141 : decode cX7_isStruck 141 = .ok (.ifCond .ne 19, 3) := by decide +kernel
theorem dX7_isStruck_144 : decode cX7_isStruck 144 = .ok (.aload_n 0, 1) := by decide +kernel
theorem dX7_isStruck_145 : decode cX7_isStruck 145 = .ok (.getfield 7, 3) := by decide +kernel
theorem dX7_isStruck_148 : decode cX7_isStruck 148 = .ok (.sipush 370, 3) := by decide +kernel
theorem dX7_isStruck_151 : decode cX7_isStruck 151 = .ok (.dup2, 1) := by decide +kernel
theorem dX7_isStruck_152 : decode cX7_isStruck 152 = .ok (.iaload, 1) := by decide +kernel
theorem dX7_isStruck_153 : decode cX7_isStruck 153 = .ok (.iconst 1, 1) := by decide +kernel
theorem dX7_isStruck_154 : decode cX7_isStruck 154 = .ok (.iload_n 1, 1) := by decide +kernel
theorem dX7_isStruck_155 : decode cX7_isStruck 155 = .ok (.ishl, 1) := by decide +kernel
theorem dX7_isStruck_156 : decode cX7_isStruck 156 = .ok (.ior, 1) := by decide +kernel
theorem dX7_isStruck_157 : decode cX7_isStruck 157 = .ok (.iastore, 1) := by decide +kernel
theorem dX7_isStruck_158 : decode cX7_isStruck 158 = .ok (.iconst 1, 1) := by decide +kernel
theorem dX7_isStruck_159 : decode cX7_isStruck 159 = .ok (.ireturn, 1) := by decide +kernel
theorem dX7_isStruck_160 : decode cX7_isStruck 160 = .ok (.aload_n 0, 1) := by decide +kernel
theorem dX7_isStruck_161 : decode cX7_isStruck 161 = .ok (.getfield 7, 3) := by decide +kernel
theorem dX7_isStruck_164 : decode cX7_isStruck 164 = .ok (.sipush 369, 3) := by decide +kernel
theorem dX7_isStruck_167 : decode cX7_isStruck 167 = .ok (.dup2, 1) := by decide +kernel
theorem dX7_isStruck_168 : decode cX7_isStruck 168 = .ok (.iaload, 1) := by decide +kernel
theorem dX7_isStruck_169 : decode cX7_isStruck 169 = .ok (.iload_n 3, 1) := by decide +kernel
theorem dX7_isStruck_170 : decode cX7_isStruck 170 = .ok (.ior, 1) := by decide +kernel
theorem dX7_isStruck_171 : decode cX7_isStruck 171 = .ok (.iastore, 1) := by decide +kernel
theorem dX7_isStruck_172 : decode cX7_isStruck 172 = .ok (.iconst 0, 1) := by decide +kernel
theorem dX7_isStruck_173 : decode cX7_isStruck 173 = .ok (.ireturn, 1) := by decide +kernel
set_option maxRecDepth 20000 in
theorem ggX7_strike_X7_has : GoodIn wsX7_strike wsX7_has := goodIn_r _ [5] (by decide +kernel) (by decide +kernel)
set_option maxRecDepth 20000 in
theorem gX7_strike_X7_has : GoodIn wsX7_strike (va_wsS RX7 88 yX7_has wsX7_has) := goodIn_app (goodIn_of _ (by decide +kernel)) ggX7_strike_X7_has
theorem dX7_strike_0 : decode cX7_strike 0 = .ok (.iconst 1, 1) := by decide +kernel
theorem dX7_strike_1 : decode cX7_strike 1 = .ok (.istore_n 1, 1) := by decide +kernel
theorem dX7_strike_2 : decode cX7_strike 2 = .ok (.iload_n 1, 1) := by decide +kernel
theorem dX7_strike_3 : decode cX7_strike 3 = .ok (.bipush 7, 2) := by decide +kernel
theorem dX7_strike_5 : decode cX7_strike 5 = .ok (.if_icmp .gt 47, 3) := by decide +kernel
theorem dX7_strike_8 : decode cX7_strike 8 = .ok (.aload_n 0, 1) := by decide +kernel
theorem dX7_strike_9 : decode cX7_strike 9 = .ok (.getfield 7, 3) := by decide +kernel
theorem dX7_strike_12 : decode cX7_strike 12 = .ok (.bipush 40, 2) := by decide +kernel
theorem dX7_strike_14 : decode cX7_strike 14 = .ok (.iload_n 1, 1) := by decide +kernel
theorem dX7_strike_15 : decode cX7_strike 15 = .ok (.iadd, 1) := by decide +kernel
theorem dX7_strike_16 : decode cX7_strike 16 = .ok (.aload_n 0, 1) := by decide +kernel
theorem dX7_strike_17 : decode cX7_strike 17 = .ok (.getfield 7, 3) := by decide +kernel
theorem dX7_strike_20 : decode cX7_strike 20 = .ok (.sipush 370, 3) := by decide +kernel
theorem dX7_strike_23 : decode cX7_strike 23 = .ok (.iaload, 1) := by decide +kernel
theorem dX7_strike_24 : decode cX7_strike 24 = .ok (.iload_n 1, 1) := by decide +kernel
theorem dX7_strike_25 : decode cX7_strike 25 = .ok (.invokestatic 88, 3) := by decide +kernel
theorem dX7_strike_28 : decode cX7_strike 28 = .ok (.ifCond .eq 8, 3) := by decide +kernel
theorem dX7_strike_31 : decode cX7_strike 31 = .ok (.bipush (-6), 2) := by decide +kernel
theorem dX7_strike_33 : decode cX7_strike 33 = .ok (.goto 12, 3) := by decide +kernel
theorem dX7_strike_36 : decode cX7_strike 36 = .ok (.aload_n 0, 1) := by decide +kernel
theorem dX7_strike_37 : decode cX7_strike 37 = .ok (.getfield 7, 3) := by decide +kernel
theorem dX7_strike_40 : decode cX7_strike 40 = .ok (.bipush 40, 2) := by decide +kernel
theorem dX7_strike_42 : decode cX7_strike 42 = .ok (.iload_n 1, 1) := by decide +kernel
theorem dX7_strike_43 : decode cX7_strike 43 = .ok (.iadd, 1) := by decide +kernel
theorem dX7_strike_44 : decode cX7_strike 44 = .ok (.iaload, 1) := by decide +kernel
theorem dX7_strike_45 : decode cX7_strike 45 = .ok (.iastore, 1) := by decide +kernel
theorem dX7_strike_46 : decode cX7_strike 46 = .ok (.iinc 1 1, 3) := by decide +kernel
theorem dX7_strike_49 : decode cX7_strike 49 = .ok (.goto (-47), 3) := by decide +kernel
theorem dX7_strike_52 : decode cX7_strike 52 = .ok (.return_, 1) := by decide +kernel
theorem dX7_nextEpoch_0 : decode cX7_nextEpoch 0 = .ok (.aload_n 0, 1) := by decide +kernel
theorem dX7_nextEpoch_1 : decode cX7_nextEpoch 1 = .ok (.getfield 7, 3) := by decide +kernel
theorem dX7_nextEpoch_4 : decode cX7_nextEpoch 4 = .ok (.bipush 89, 2) := by decide +kernel
theorem dX7_nextEpoch_6 : decode cX7_nextEpoch 6 = .ok (.dup2, 1) := by decide +kernel
theorem dX7_nextEpoch_7 : decode cX7_nextEpoch 7 = .ok (.iaload, 1) := by decide +kernel
theorem dX7_nextEpoch_8 : decode cX7_nextEpoch 8 = .ok (.iconst 1, 1) := by decide +kernel
theorem dX7_nextEpoch_9 : decode cX7_nextEpoch 9 = .ok (.iadd, 1) := by decide +kernel
theorem dX7_nextEpoch_10 : decode cX7_nextEpoch 10 = .ok (.iastore, 1) := by decide +kernel
theorem dX7_nextEpoch_11 : decode cX7_nextEpoch 11 = .ok (.aload_n 0, 1) := by decide +kernel
theorem dX7_nextEpoch_12 : decode cX7_nextEpoch 12 = .ok (.getfield 7, 3) := by decide +kernel
theorem dX7_nextEpoch_15 : decode cX7_nextEpoch 15 = .ok (.bipush 95, 2) := by decide +kernel
theorem dX7_nextEpoch_17 : decode cX7_nextEpoch 17 = .ok (.aload_n 0, 1) := by decide +kernel
theorem dX7_nextEpoch_18 : decode cX7_nextEpoch 18 = .ok (.getfield 7, 3) := by decide +kernel
theorem dX7_nextEpoch_21 : decode cX7_nextEpoch 21 = .ok (.bipush 89, 2) := by decide +kernel
theorem dX7_nextEpoch_23 : decode cX7_nextEpoch 23 = .ok (.iaload, 1) := by decide +kernel
theorem dX7_nextEpoch_24 : decode cX7_nextEpoch 24 = .ok (.iadd, 1) := by decide +kernel
theorem dX7_nextEpoch_25 : decode cX7_nextEpoch 25 = .ok (.aload_n 0, 1) := by decide +kernel
theorem dX7_nextEpoch_26 : decode cX7_nextEpoch 26 = .ok (.getfield 7, 3) := by decide +kernel
theorem dX7_nextEpoch_29 : decode cX7_nextEpoch 29 = .ok (.bipush 88, 2) := by decide +kernel
theorem dX7_nextEpoch_31 : decode cX7_nextEpoch 31 = .ok (.iaload, 1) := by decide +kernel
theorem dX7_nextEpoch_32 : decode cX7_nextEpoch 32 = .ok (.iastore, 1) := by decide +kernel
theorem dX7_nextEpoch_33 : decode cX7_nextEpoch 33 = .ok (.return_, 1) := by decide +kernel
set_option maxRecDepth 20000 in
theorem ggX7_deal_X7_layPoly : GoodIn wsX7_deal wsX7_layPoly := goodIn_r _ [7, 8, 2, 1, 27, 28, 29, 30, 31, 32, 33, 34, 35] (by decide +kernel) (by decide +kernel)
set_option maxRecDepth 20000 in
theorem gX7_deal_X7_layPoly : GoodIn wsX7_deal (wsV RX7 106 RX7 yX7_layPoly wsX7_layPoly) := goodIn_app (goodIn_of _ (by decide +kernel)) ggX7_deal_X7_layPoly
set_option maxRecDepth 20000 in
theorem ggX7_deal_X7_sealOf : GoodIn wsX7_deal wsX7_sealOf := goodIn_r _ [11, 12, 13, 6, 14] (by decide +kernel) (by decide +kernel)
set_option maxRecDepth 20000 in
theorem gX7_deal_X7_sealOf : GoodIn wsX7_deal (va_wsS RX7 58 yX7_sealOf wsX7_sealOf) := goodIn_app (goodIn_of _ (by decide +kernel)) ggX7_deal_X7_sealOf
set_option maxRecDepth 20000 in
theorem ggX7_deal_X7_polyAt : GoodIn wsX7_deal wsX7_polyAt := goodIn_r _ [18, 8, 2, 12, 13, 6, 14, 27, 28, 29, 30, 31, 32, 33, 34, 35] (by decide +kernel) (by decide +kernel)
set_option maxRecDepth 20000 in
theorem gX7_deal_X7_polyAt : GoodIn wsX7_deal (wsV RX7 100 RX7 yX7_polyAt wsX7_polyAt) := goodIn_app (goodIn_of _ (by decide +kernel)) ggX7_deal_X7_polyAt
set_option maxRecDepth 20000 in
theorem ggX7_deal_X7_isDealt : GoodIn wsX7_deal wsX7_isDealt := goodIn_r _ [22, 1, 27, 28, 29, 30, 31, 32, 33, 34, 35] (by decide +kernel) (by decide +kernel)
set_option maxRecDepth 20000 in
theorem gX7_deal_X7_isDealt : GoodIn wsX7_deal (wsV RX7 110 RX7 yX7_isDealt wsX7_isDealt) := goodIn_app (goodIn_of _ (by decide +kernel)) ggX7_deal_X7_isDealt
set_option maxRecDepth 20000 in
theorem ggX7_deal_X7_nextEpoch : GoodIn wsX7_deal wsX7_nextEpoch := goodIn_r _ [26, 1, 27, 28, 29, 30, 31, 32, 33, 34, 35] (by decide +kernel) (by decide +kernel)
set_option maxRecDepth 20000 in
theorem gX7_deal_X7_nextEpoch : GoodIn wsX7_deal (wsV RX7 114 RX7 yX7_nextEpoch wsX7_nextEpoch) := goodIn_app (goodIn_of _ (by decide +kernel)) ggX7_deal_X7_nextEpoch
theorem dX7_deal_0 : decode cX7_deal 0 = .ok (.aload_n 0, 1) := by decide +kernel
theorem dX7_deal_1 : decode cX7_deal 1 = .ok (.iconst 0, 1) := by decide +kernel
theorem dX7_deal_2 : decode cX7_deal 2 = .ok (.aload_n 0, 1) := by decide +kernel
theorem dX7_deal_3 : decode cX7_deal 3 = .ok (.getfield 7, 3) := by decide +kernel
theorem dX7_deal_6 : decode cX7_deal 6 = .ok (.iconst 0, 1) := by decide +kernel
theorem dX7_deal_7 : decode cX7_deal 7 = .ok (.iaload, 1) := by decide +kernel
theorem dX7_deal_8 : decode cX7_deal 8 = .ok (.iload_n 1, 1) := by decide +kernel
theorem dX7_deal_9 : decode cX7_deal 9 = .ok (.invokevirtual 106, 3) := by decide +kernel
theorem dX7_deal_12 : decode cX7_deal 12 = .ok (.aload_n 0, 1) := by decide +kernel
theorem dX7_deal_13 : decode cX7_deal 13 = .ok (.getfield 7, 3) := by decide +kernel
theorem dX7_deal_16 : decode cX7_deal 16 = .ok (.bipush 88, 2) := by decide +kernel
theorem dX7_deal_18 : decode cX7_deal 18 = .ok (.iload_n 1, 1) := by decide +kernel
theorem dX7_deal_19 : decode cX7_deal 19 = .ok (.iastore, 1) := by decide +kernel
theorem dX7_deal_20 : decode cX7_deal 20 = .ok (.iconst 0, 1) := by decide +kernel
theorem dX7_deal_21 : decode cX7_deal 21 = .ok (.istore_n 2, 1) := by decide +kernel
theorem dX7_deal_22 : decode cX7_deal 22 = .ok (.iload_n 2, 1) := by decide +kernel
theorem dX7_deal_23 : decode cX7_deal 23 = .ok (.iload_n 1, 1) := by decide +kernel
theorem dX7_deal_24 : decode cX7_deal 24 = .ok (.if_icmp .ge 27, 3) := by decide +kernel
theorem dX7_deal_27 : decode cX7_deal 27 = .ok (.aload_n 0, 1) := by decide +kernel
theorem dX7_deal_28 : decode cX7_deal 28 = .ok (.getfield 7, 3) := by decide +kernel
theorem dX7_deal_31 : decode cX7_deal 31 = .ok (.bipush 90, 2) := by decide +kernel
theorem dX7_deal_33 : decode cX7_deal 33 = .ok (.iload_n 2, 1) := by decide +kernel
theorem dX7_deal_34 : decode cX7_deal 34 = .ok (.iadd, 1) := by decide +kernel
theorem dX7_deal_35 : decode cX7_deal 35 = .ok (.aload_n 0, 1) := by decide +kernel
theorem dX7_deal_36 : decode cX7_deal 36 = .ok (.getfield 16, 3) := by decide +kernel
theorem dX7_deal_39 : decode cX7_deal 39 = .ok (.iload_n 2, 1) := by decide +kernel
theorem dX7_deal_40 : decode cX7_deal 40 = .ok (.iaload, 1) := by decide +kernel
theorem dX7_deal_41 : decode cX7_deal 41 = .ok (.invokestatic 58, 3) := by decide +kernel
theorem dX7_deal_44 : decode cX7_deal 44 = .ok (.iastore, 1) := by decide +kernel
theorem dX7_deal_45 : decode cX7_deal 45 = .ok (.iinc 2 1, 3) := by decide +kernel
theorem dX7_deal_48 : decode cX7_deal 48 = .ok (.goto (-26), 3) := by decide +kernel
theorem dX7_deal_51 : decode cX7_deal 51 = .ok (.iconst 1, 1) := by decide +kernel
theorem dX7_deal_52 : decode cX7_deal 52 = .ok (.istore_n 2, 1) := by decide +kernel
theorem dX7_deal_53 : decode cX7_deal 53 = .ok (.iload_n 2, 1) := by decide +kernel
theorem dX7_deal_54 : decode cX7_deal 54 = .ok (.bipush 7, 2) := by decide +kernel
theorem dX7_deal_56 : decode cX7_deal 56 = .ok (.if_icmp .gt 23, 3) := by decide +kernel
theorem dX7_deal_59 : decode cX7_deal 59 = .ok (.aload_n 0, 1) := by decide +kernel
theorem dX7_deal_60 : decode cX7_deal 60 = .ok (.getfield 7, 3) := by decide +kernel
theorem dX7_deal_63 : decode cX7_deal 63 = .ok (.bipush 40, 2) := by decide +kernel
theorem dX7_deal_65 : decode cX7_deal 65 = .ok (.iload_n 2, 1) := by decide +kernel
theorem dX7_deal_66 : decode cX7_deal 66 = .ok (.iadd, 1) := by decide +kernel
theorem dX7_deal_67 : decode cX7_deal 67 = .ok (.aload_n 0, 1) := by decide +kernel
theorem dX7_deal_68 : decode cX7_deal 68 = .ok (.iload_n 2, 1) := by decide +kernel
theorem dX7_deal_69 : decode cX7_deal 69 = .ok (.invokevirtual 100, 3) := by decide +kernel
theorem dX7_deal_72 : decode cX7_deal 72 = .ok (.iastore, 1) := by decide +kernel
theorem dX7_deal_73 : decode cX7_deal 73 = .ok (.iinc 2 1, 3) := by decide +kernel
theorem dX7_deal_76 : decode cX7_deal 76 = .ok (.goto (-23), 3) := by decide +kernel
theorem dX7_deal_79 : decode cX7_deal 79 = .ok (.aload_n 0, 1) := by decide +kernel
theorem dX7_deal_80 : decode cX7_deal 80 = .ok (.getfield 7, 3) := by decide +kernel
theorem dX7_deal_83 : decode cX7_deal 83 = .ok (.bipush 89, 2) := by decide +kernel
theorem dX7_deal_85 : decode cX7_deal 85 = .ok (.aload_n 0, 1) := by decide +kernel
theorem dX7_deal_86 : decode cX7_deal 86 = .ok (.invokevirtual 110, 3) := by decide +kernel
theorem dX7_deal_89 : decode cX7_deal 89 = .ok (.ifCond .eq 13, 3) := by decide +kernel
theorem dX7_deal_92 : decode cX7_deal 92 = .ok (.aload_n 0, 1) := by decide +kernel
theorem dX7_deal_93 : decode cX7_deal 93 = .ok (.getfield 7, 3) := by decide +kernel
theorem dX7_deal_96 : decode cX7_deal 96 = .ok (.bipush 89, 2) := by decide +kernel
theorem dX7_deal_98 : decode cX7_deal 98 = .ok (.iaload, 1) := by decide +kernel
theorem dX7_deal_99 : decode cX7_deal 99 = .ok (.goto 4, 3) := by decide +kernel
theorem dX7_deal_102 : decode cX7_deal 102 = .ok (.iconst (-1), 1) := by decide +kernel
theorem dX7_deal_103 : decode cX7_deal 103 = .ok (.iastore, 1) := by decide +kernel
theorem dX7_deal_104 : decode cX7_deal 104 = .ok (.aload_n 0, 1) := by decide +kernel
theorem dX7_deal_105 : decode cX7_deal 105 = .ok (.invokevirtual 114, 3) := by decide +kernel
theorem dX7_deal_108 : decode cX7_deal 108 = .ok (.iconst 1, 1) := by decide +kernel
theorem dX7_deal_109 : decode cX7_deal 109 = .ok (.ireturn, 1) := by decide +kernel
set_option maxRecDepth 20000 in
theorem ggX7_forget_X7_having : GoodIn wsX7_forget wsX7_having := goodIn_r _ [6, 7, 8, 9, 5, 10, 1, 14, 15, 16, 17, 18, 19, 20, 21, 22] (by decide +kernel) (by decide +kernel)
set_option maxRecDepth 20000 in
theorem gX7_forget_X7_having : GoodIn wsX7_forget (wsV RX7 117 RX7 yX7_having wsX7_having) := goodIn_app (goodIn_of _ (by decide +kernel)) ggX7_forget_X7_having
set_option maxRecDepth 20000 in
theorem ggX7_forget_X7_bits : GoodIn wsX7_forget wsX7_bits := goodIn_r _ [13] (by decide +kernel) (by decide +kernel)
set_option maxRecDepth 20000 in
theorem gX7_forget_X7_bits : GoodIn wsX7_forget (va_wsS RX7 120 yX7_bits wsX7_bits) := goodIn_app (goodIn_of _ (by decide +kernel)) ggX7_forget_X7_bits
theorem dX7_forget_0 : decode cX7_forget 0 = .ok (.aload_n 0, 1) := by decide +kernel
theorem dX7_forget_1 : decode cX7_forget 1 = .ok (.getfield 7, 3) := by decide +kernel
theorem dX7_forget_4 : decode cX7_forget 4 = .ok (.bipush 40, 2) := by decide +kernel
theorem dX7_forget_6 : decode cX7_forget 6 = .ok (.iload_n 1, 1) := by decide +kernel
theorem dX7_forget_7 : decode cX7_forget 7 = .ok (.iadd, 1) := by decide +kernel
theorem dX7_forget_8 : decode cX7_forget 8 = .ok (.bipush (-6), 2) := by decide +kernel
theorem dX7_forget_10 : decode cX7_forget 10 = .ok (.iastore, 1) := by decide +kernel
theorem dX7_forget_11 : decode cX7_forget 11 = .ok (.aload_n 0, 1) := by decide +kernel
theorem dX7_forget_12 : decode cX7_forget 12 = .ok (.invokevirtual 117, 3) := by decide +kernel
theorem dX7_forget_15 : decode cX7_forget 15 = .ok (.invokestatic 120, 3) := by decide +kernel
theorem dX7_forget_18 : decode cX7_forget 18 = .ok (.ireturn, 1) := by decide +kernel
set_option maxRecDepth 20000 in
theorem ggX7_honest_X7_figure : GoodIn wsX7_honest wsX7_figure := goodIn_r _ [7, 8, 37, 38, 39, 40, 41, 42, 43, 44, 45] (by decide +kernel) (by decide +kernel)
set_option maxRecDepth 20000 in
theorem gX7_honest_X7_figure : GoodIn wsX7_honest (wsV RX7 75 RX7 yX7_figure wsX7_figure) := goodIn_app (goodIn_of _ (by decide +kernel)) ggX7_honest_X7_figure
set_option maxRecDepth 20000 in
theorem ggX7_honest_X7_hasShare : GoodIn wsX7_honest wsX7_hasShare := goodIn_r _ [12, 2, 37, 38, 39, 40, 41, 42, 43, 44, 45] (by decide +kernel) (by decide +kernel)
set_option maxRecDepth 20000 in
theorem gX7_honest_X7_hasShare : GoodIn wsX7_honest (wsV RX7 61 RX7 yX7_hasShare wsX7_hasShare) := goodIn_app (goodIn_of _ (by decide +kernel)) ggX7_honest_X7_hasShare
set_option maxRecDepth 20000 in
theorem ggX7_honest_X7_told : GoodIn wsX7_honest wsX7_told := goodIn_r _ [16, 2, 17, 18, 19, 6, 20, 21, 22, 23, 24, 25, 26, 37, 38, 39, 40, 41, 42, 43, 44, 45] (by decide +kernel) (by decide +kernel)
set_option maxRecDepth 20000 in
theorem gX7_honest_X7_told : GoodIn wsX7_honest (wsV RX7 64 RX7 yX7_told wsX7_told) := goodIn_app (goodIn_of _ (by decide +kernel)) ggX7_honest_X7_told
set_option maxRecDepth 20000 in
theorem ggX7_honest_X7_isFit : GoodIn wsX7_honest wsX7_isFit := goodIn_r _ [30, 2, 31, 32, 6, 33, 34, 35, 36, 37, 38, 39, 40, 41, 42, 43, 44, 45] (by decide +kernel) (by decide +kernel)
set_option maxRecDepth 20000 in
theorem gX7_honest_X7_isFit : GoodIn wsX7_honest (wsV RX7 67 RX7 yX7_isFit wsX7_isFit) := goodIn_app (goodIn_of _ (by decide +kernel)) ggX7_honest_X7_isFit
theorem dX7_honest_0 : decode cX7_honest 0 = .ok (.iconst 0, 1) := by decide +kernel
theorem dX7_honest_1 : decode cX7_honest 1 = .ok (.istore_n 2, 1) := by decide +kernel
theorem dX7_honest_2 : decode cX7_honest 2 = .ok (.iload_n 1, 1) := by decide +kernel
theorem dX7_honest_3 : decode cX7_honest 3 = .ok (.istore_n 3, 1) := by decide +kernel
theorem dX7_honest_4 : decode cX7_honest 4 = .ok (.iload_n 3, 1) := by decide +kernel
theorem dX7_honest_5 : decode cX7_honest 5 = .ok (.aload_n 0, 1) := by decide +kernel
theorem dX7_honest_6 : decode cX7_honest 6 = .ok (.getfield 71, 3) := by decide +kernel
theorem dX7_honest_9 : decode cX7_honest 9 = .ok (.if_icmp .ge 79, 3) := by decide +kernel
theorem dX7_honest_12 : decode cX7_honest 12 = .ok (.aload_n 0, 1) := by decide +kernel
theorem dX7_honest_13 : decode cX7_honest 13 = .ok (.iload_n 3, 1) := by decide +kernel
theorem dX7_honest_14 : decode cX7_honest 14 = .ok (.invokevirtual 75, 3) := by decide +kernel
theorem dX7_honest_17 : decode cX7_honest 17 = .ok (.istore 4, 2) := by decide +kernel
theorem dX7_honest_19 : decode cX7_honest 19 = .ok (.aload_n 0, 1) := by decide +kernel
theorem dX7_honest_20 : decode cX7_honest 20 = .ok (.iload 4, 2) := by decide +kernel
theorem dX7_honest_22 : decode cX7_honest 22 = .ok (.invokevirtual 61, 3) := by decide +kernel
theorem dX7_honest_25 : decode cX7_honest 25 = .ok (.ifCond .eq 57, 3) := by decide +kernel
theorem dX7_honest_28 : decode cX7_honest 28 = .ok (.aload_n 0, 1) := by decide +kernel
theorem dX7_honest_29 : decode cX7_honest 29 = .ok (.aload_n 0, 1) := by decide +kernel
theorem dX7_honest_30 : decode cX7_honest 30 = .ok (.iload 4, 2) := by decide +kernel
theorem dX7_honest_32 : decode cX7_honest 32 = .ok (.invokevirtual 64, 3) := by decide +kernel
theorem dX7_honest_35 : decode cX7_honest 35 = .ok (.iload 4, 2) := by decide +kernel
theorem dX7_honest_37 : decode cX7_honest 37 = .ok (.invokevirtual 67, 3) := by decide +kernel
theorem dX7_honest_40 : decode cX7_honest 40 = .ok (.istore 5, 2) := by decide +kernel
theorem dX7_honest_42 : decode cX7_honest 42 = .ok (.iload_n 2, 1) := by decide +kernel
theorem dX7_honest_43 : decode cX7_honest 43 = .ok (.iload 5, 2) := by decide +kernel
theorem dX7_honest_45 : decode cX7_honest 45 = .ok (.ifCond .eq 10, 3) := by decide +kernel
theorem dX7_honest_48 : decode cX7_honest 48 = .ok (.iconst 1, 1) := by decide +kernel
theorem dX7_honest_49 : decode cX7_honest 49 = .ok (.iload 4, 2) := by decide +kernel
theorem dX7_honest_51 : decode cX7_honest 51 = .ok (.ishl, 1) := by decide +kernel
theorem dX7_honest_52 : decode cX7_honest 52 = .ok (.goto 4, 3) := by decide +kernel
theorem dX7_honest_55 : decode cX7_honest 55 = .ok (.iconst 0, 1) := by decide +kernel
theorem dX7_honest_56 : decode cX7_honest 56 = .ok (.ior, 1) := by decide +kernel
theorem dX7_honest_57 : decode cX7_honest 57 = .ok (.istore_n 2, 1) := by decide +kernel
theorem dX7_honest_58 : decode cX7_honest 58 = .ok (.aload_n 0, 1) := by decide +kernel
theorem dX7_honest_59 : decode cX7_honest 59 = .ok (.getfield 7, 3) := by decide +kernel
theorem dX7_honest_62 : decode cX7_honest 62 = .ok (.sipush 369, 3) := by decide +kernel
theorem dX7_honest_65 : decode cX7_honest 65 = .ok (.dup2, 1) := by decide +kernel
theorem dX7_honest_66 : decode cX7_honest 66 = .ok (.iaload, 1) := by decide +kernel
theorem dX7_honest_67 : decode cX7_honest 67 = .ok (.iload 5, 2) := by decide +kernel
theorem dX7_honest_69 : decode cX7_honest 69 = .ok (.ifCond .eq 7, 3) := by decide +kernel
theorem dX7_honest_72 : decode cX7_honest 72 = .ok (.iconst 0, 1) := by decide +kernel
theorem dX7_honest_73 : decode cX7_honest 73 = .ok (.goto 7, 3) := by decide +kernel
theorem dX7_honest_76 : decode cX7_honest 76 = .ok (.iconst 1, 1) := by decide +kernel
theorem dX7_honest_77 : decode cX7_honest 77 = .ok (.iload 4, 2) := by decide +kernel
theorem dX7_honest_79 : decode cX7_honest 79 = .ok (.ishl, 1) := by decide +kernel
theorem dX7_honest_80 : decode cX7_honest 80 = .ok (.ior, 1) := by decide +kernel
theorem dX7_honest_81 : decode cX7_honest 81 = .ok (.iastore, 1) := by decide +kernel
theorem dX7_honest_82 : decode cX7_honest 82 = .ok (.iinc 3 1, 3) := by decide +kernel
theorem dX7_honest_85 : decode cX7_honest 85 = .ok (.goto (-81), 3) := by decide +kernel
theorem dX7_honest_88 : decode cX7_honest 88 = .ok (.iload_n 2, 1) := by decide +kernel
theorem dX7_honest_89 : decode cX7_honest 89 = .ok (.ireturn, 1) := by decide +kernel
set_option maxRecDepth 20000 in
theorem ggX7_firstOf_X7_has : GoodIn wsX7_firstOf wsX7_has := goodIn_r _ [4] (by decide +kernel) (by decide +kernel)
set_option maxRecDepth 20000 in
theorem gX7_firstOf_X7_has : GoodIn wsX7_firstOf (va_wsS RX7 88 yX7_has wsX7_has) := goodIn_app (goodIn_of _ (by decide +kernel)) ggX7_firstOf_X7_has
set_option maxRecDepth 20000 in
theorem ggX7_firstOf_X7_bits : GoodIn wsX7_firstOf wsX7_bits := goodIn_r _ [7] (by decide +kernel) (by decide +kernel)
set_option maxRecDepth 20000 in
theorem gX7_firstOf_X7_bits : GoodIn wsX7_firstOf (va_wsS RX7 120 yX7_bits wsX7_bits) := goodIn_app (goodIn_of _ (by decide +kernel)) ggX7_firstOf_X7_bits
theorem dX7_firstOf_0 : decode cX7_firstOf 0 = .ok (.iconst 0, 1) := by decide +kernel
theorem dX7_firstOf_1 : decode cX7_firstOf 1 = .ok (.istore_n 2, 1) := by decide +kernel
theorem dX7_firstOf_2 : decode cX7_firstOf 2 = .ok (.iconst 1, 1) := by decide +kernel
theorem dX7_firstOf_3 : decode cX7_firstOf 3 = .ok (.istore_n 3, 1) := by decide +kernel
theorem dX7_firstOf_4 : decode cX7_firstOf 4 = .ok (.iload_n 3, 1) := by decide +kernel
theorem dX7_firstOf_5 : decode cX7_firstOf 5 = .ok (.bipush 7, 2) := by decide +kernel
theorem dX7_firstOf_7 : decode cX7_firstOf 7 = .ok (.if_icmp .gt 35, 3) := by decide +kernel
theorem dX7_firstOf_10 : decode cX7_firstOf 10 = .ok (.iload_n 2, 1) := by decide +kernel
theorem dX7_firstOf_11 : decode cX7_firstOf 11 = .ok (.iload_n 0, 1) := by decide +kernel
theorem dX7_firstOf_12 : decode cX7_firstOf 12 = .ok (.iload_n 3, 1) := by decide +kernel
theorem dX7_firstOf_13 : decode cX7_firstOf 13 = .ok (.invokestatic 88, 3) := by decide +kernel
theorem dX7_firstOf_16 : decode cX7_firstOf 16 = .ok (.ifCond .eq 17, 3) := by decide +kernel
theorem dX7_firstOf_19 : decode cX7_firstOf 19 = .ok (.iload_n 2, 1) := by decide +kernel
theorem dX7_firstOf_20 : decode cX7_firstOf 20 = .ok (.invokestatic 120, 3) := by decide +kernel
theorem dX7_firstOf_23 : decode cX7_firstOf 23 = .ok (.iload_n 1, 1) := by decide +kernel
theorem dX7_firstOf_24 : decode cX7_firstOf 24 = .ok (.if_icmp .ge 9, 3) := by decide +kernel
theorem dX7_firstOf_27 : decode cX7_firstOf 27 = .ok (.iconst 1, 1) := by decide +kernel
theorem dX7_firstOf_28 : decode cX7_firstOf 28 = .ok (.iload_n 3, 1) := by decide +kernel
theorem dX7_firstOf_29 : decode cX7_firstOf 29 = .ok (.ishl, 1) := by decide +kernel
theorem dX7_firstOf_30 : decode cX7_firstOf 30 = .ok (.goto 4, 3) := by decide +kernel
theorem dX7_firstOf_33 : decode cX7_firstOf 33 = .ok (.iconst 0, 1) := by decide +kernel
theorem dX7_firstOf_34 : decode cX7_firstOf 34 = .ok (.ior, 1) := by decide +kernel
theorem dX7_firstOf_35 : decode cX7_firstOf 35 = .ok (.istore_n 2, 1) := by decide +kernel
theorem dX7_firstOf_36 : decode cX7_firstOf 36 = .ok (.iinc 3 1, 3) := by decide +kernel
theorem dX7_firstOf_39 : decode cX7_firstOf 39 = .ok (.goto (-35), 3) := by decide +kernel
theorem dX7_firstOf_42 : decode cX7_firstOf 42 = .ok (.iload_n 2, 1) := by decide +kernel
theorem dX7_firstOf_43 : decode cX7_firstOf 43 = .ok (.ireturn, 1) := by decide +kernel
set_option maxRecDepth 20000 in
theorem ggX7_together_X7_has : GoodIn wsX7_together wsX7_has := goodIn_r _ [4] (by decide +kernel) (by decide +kernel)
set_option maxRecDepth 20000 in
theorem gX7_together_X7_has : GoodIn wsX7_together (va_wsS RX7 88 yX7_has wsX7_has) := goodIn_app (goodIn_of _ (by decide +kernel)) ggX7_together_X7_has
set_option maxRecDepth 20000 in
theorem ggX7_together_X7_told : GoodIn wsX7_together wsX7_told := goodIn_r _ [8, 9, 10, 11, 12, 3, 13, 14, 15, 16, 17, 18, 19, 29, 30, 31, 32, 33, 34, 35, 36, 37] (by decide +kernel) (by decide +kernel)
set_option maxRecDepth 20000 in
theorem gX7_together_X7_told : GoodIn wsX7_together (wsV RX7 64 RX7 yX7_told wsX7_told) := goodIn_app (goodIn_of _ (by decide +kernel)) ggX7_together_X7_told
set_option maxRecDepth 20000 in
theorem ggX7_together_X7_weight : GoodIn wsX7_together wsX7_weight := goodIn_r _ [22, 1, 2, 3, 4, 17, 18, 19, 23, 24, 25, 26, 27, 28] (by decide +kernel) (by decide +kernel)
set_option maxRecDepth 20000 in
theorem gX7_together_X7_weight : GoodIn wsX7_together (va_wsS RX7 94 yX7_weight wsX7_weight) := goodIn_app (goodIn_of _ (by decide +kernel)) ggX7_together_X7_weight
theorem dX7_together_0 : decode cX7_together 0 = .ok (.iconst 0, 1) := by decide +kernel
theorem dX7_together_1 : decode cX7_together 1 = .ok (.istore_n 3, 1) := by decide +kernel
theorem dX7_together_2 : decode cX7_together 2 = .ok (.iconst 1, 1) := by decide +kernel
theorem dX7_together_3 : decode cX7_together 3 = .ok (.istore 4, 2) := by decide +kernel
theorem dX7_together_5 : decode cX7_together 5 = .ok (.iload 4, 2) := by decide +kernel
theorem dX7_together_7 : decode cX7_together 7 = .ok (.bipush 7, 2) := by decide +kernel
theorem dX7_together_9 : decode cX7_together 9 = .ok (.if_icmp .gt 39, 3) := by decide +kernel
theorem dX7_together_12 : decode cX7_together 12 = .ok (.iload_n 3, 1) := by decide +kernel
theorem dX7_together_13 : decode cX7_together 13 = .ok (.iload_n 1, 1) := by decide +kernel
theorem dX7_together_14 : decode cX7_together 14 = .ok (.iload 4, 2) := by decide +kernel
theorem dX7_together_16 : decode cX7_together 16 = .ok (.invokestatic 88, 3) := by decide +kernel
theorem dX7_together_19 : decode cX7_together 19 = .ok (.ifCond .eq 20, 3) := by decide +kernel
theorem dX7_together_22 : decode cX7_together 22 = .ok (.aload_n 0, 1) := by decide +kernel
theorem dX7_together_23 : decode cX7_together 23 = .ok (.iload 4, 2) := by decide +kernel
theorem dX7_together_25 : decode cX7_together 25 = .ok (.invokevirtual 64, 3) := by decide +kernel
theorem dX7_together_28 : decode cX7_together 28 = .ok (.iload 4, 2) := by decide +kernel
theorem dX7_together_30 : decode cX7_together 30 = .ok (.iload_n 1, 1) := by decide +kernel
theorem dX7_together_31 : decode cX7_together 31 = .ok (.iload_n 2, 1) := by decide +kernel
theorem dX7_together_32 : decode cX7_together 32 = .ok (.invokestatic 94, 3) := by decide +kernel
theorem dX7_together_35 : decode cX7_together 35 = .ok (.imul, 1) := by decide +kernel
theorem dX7_together_36 : decode cX7_together 36 = .ok (.goto 4, 3) := by decide +kernel
theorem dX7_together_39 : decode cX7_together 39 = .ok (.iconst 0, 1) := by decide +kernel
theorem dX7_together_40 : decode cX7_together 40 = .ok (.iadd, 1) := by decide +kernel
theorem dX7_together_41 : decode cX7_together 41 = .ok (.istore_n 3, 1) := by decide +kernel
theorem dX7_together_42 : decode cX7_together 42 = .ok (.iinc 4 1, 3) := by decide +kernel
theorem dX7_together_45 : decode cX7_together 45 = .ok (.goto (-40), 3) := by decide +kernel
theorem dX7_together_48 : decode cX7_together 48 = .ok (.iload_n 3, 1) := by decide +kernel
theorem dX7_together_49 : decode cX7_together 49 = .ok (.bipush 23, 2) := by decide +kernel
theorem dX7_together_51 : decode cX7_together 51 = .ok (.irem, 1) := by decide +kernel
theorem dX7_together_52 : decode cX7_together 52 = .ok (.ireturn, 1) := by decide +kernel
set_option maxRecDepth 20000 in
theorem ggX7_open_X7_honest : GoodIn wsX7_open wsX7_honest := goodIn_r _ [6, 7, 1, 8, 9, 10, 5, 11, 12, 13, 14, 15, 16, 17, 18, 19, 20, 21, 22, 23, 24, 25, 26, 27, 28, 29, 30, 31, 32, 33, 34, 35, 36, 37, 38, 39, 40, 60, 61, 62, 63, 64, 65, 66, 67, 68] (by decide +kernel) (by decide +kernel)
set_option maxRecDepth 20000 in
theorem gX7_open_X7_honest : GoodIn wsX7_open (wsV RX7 123 RX7 yX7_honest wsX7_honest) := goodIn_app (goodIn_of _ (by decide +kernel)) ggX7_open_X7_honest
set_option maxRecDepth 20000 in
theorem ggX7_open_X7_bits : GoodIn wsX7_open wsX7_bits := goodIn_r _ [43] (by decide +kernel) (by decide +kernel)
set_option maxRecDepth 20000 in
theorem gX7_open_X7_bits : GoodIn wsX7_open (va_wsS RX7 120 yX7_bits wsX7_bits) := goodIn_app (goodIn_of _ (by decide +kernel)) ggX7_open_X7_bits
set_option maxRecDepth 20000 in
theorem ggX7_open_X7_firstOf : GoodIn wsX7_open wsX7_firstOf := goodIn_r _ [46, 47, 48, 5, 49, 41, 42, 43] (by decide +kernel) (by decide +kernel)
set_option maxRecDepth 20000 in
theorem gX7_open_X7_firstOf : GoodIn wsX7_open (va_wsS RX7 126 yX7_firstOf wsX7_firstOf) := goodIn_app (goodIn_of _ (by decide +kernel)) ggX7_open_X7_firstOf
set_option maxRecDepth 20000 in
theorem ggX7_open_X7_together : GoodIn wsX7_open wsX7_together := goodIn_r _ [53, 47, 48, 5, 49, 17, 18, 19, 20, 1, 21, 22, 23, 24, 25, 26, 27, 28, 29, 30, 54, 55, 56, 57, 58, 59, 35, 36, 37, 60, 61, 62, 63, 64, 65, 66, 67, 68] (by decide +kernel) (by decide +kernel)
set_option maxRecDepth 20000 in
theorem gX7_open_X7_together : GoodIn wsX7_open (wsV RX7 129 RX7 yX7_together wsX7_together) := goodIn_app (goodIn_of _ (by decide +kernel)) ggX7_open_X7_together
theorem dX7_open_0 : decode cX7_open 0 = .ok (.aload_n 0, 1) := by decide +kernel
theorem dX7_open_1 : decode cX7_open 1 = .ok (.iconst 1, 1) := by decide +kernel
theorem dX7_open_2 : decode cX7_open 2 = .ok (.invokevirtual 123, 3) := by decide +kernel
theorem dX7_open_5 : decode cX7_open 5 = .ok (.istore_n 1, 1) := by decide +kernel
theorem dX7_open_6 : decode cX7_open 6 = .ok (.iload_n 1, 1) := by decide +kernel
theorem dX7_open_7 : decode cX7_open 7 = .ok (.invokestatic 120, 3) := by decide +kernel
theorem dX7_open_10 : decode cX7_open 10 = .ok (.aload_n 0, 1) := by decide +kernel
theorem dX7_open_11 : decode cX7_open 11 = .ok (.getfield 7, 3) := by decide +kernel
theorem dX7_open_14 : decode cX7_open 14 = .ok (.bipush 88, 2) := by decide +kernel
theorem dX7_open_16 : decode cX7_open 16 = .ok (.iaload, 1) := by decide +kernel
theorem dX7_open_17 : decode cX7_open 17 = .ok (.if_icmp .ge 8, 3) := by decide +kernel
theorem dX7_open_20 : decode cX7_open 20 = .ok (.bipush (-5), 2) := by decide +kernel
theorem dX7_open_22 : decode cX7_open 22 = .ok (.goto 19, 3) := by decide +kernel
theorem dX7_open_25 : decode cX7_open 25 = .ok (.aload_n 0, 1) := by decide +kernel
theorem dX7_open_26 : decode cX7_open 26 = .ok (.iload_n 1, 1) := by decide +kernel
theorem dX7_open_27 : decode cX7_open 27 = .ok (.aload_n 0, 1) := by decide +kernel
theorem dX7_open_28 : decode cX7_open 28 = .ok (.getfield 7, 3) := by decide +kernel
theorem dX7_open_31 : decode cX7_open 31 = .ok (.bipush 88, 2) := by decide +kernel
theorem dX7_open_33 : decode cX7_open 33 = .ok (.iaload, 1) := by decide +kernel
theorem dX7_open_34 : decode cX7_open 34 = .ok (.invokestatic 126, 3) := by decide +kernel
theorem dX7_open_37 : decode cX7_open 37 = .ok (.iconst 0, 1) := by decide +kernel
theorem dX7_open_38 : decode cX7_open 38 = .ok (.invokevirtual 129, 3) := by decide +kernel
theorem dX7_open_41 : decode cX7_open 41 = .ok (.ireturn, 1) := by decide +kernel
set_option maxRecDepth 20000 in
theorem ggX7_rebuild_X7_figure : GoodIn wsX7_rebuild wsX7_figure := goodIn_r _ [6, 7, 60, 61, 62, 63, 64, 65, 66, 67, 68] (by decide +kernel) (by decide +kernel)
set_option maxRecDepth 20000 in
theorem gX7_rebuild_X7_figure : GoodIn wsX7_rebuild (wsV RX7 75 RX7 yX7_figure wsX7_figure) := goodIn_app (goodIn_of _ (by decide +kernel)) ggX7_rebuild_X7_figure
set_option maxRecDepth 20000 in
theorem ggX7_rebuild_X7_hasShare : GoodIn wsX7_rebuild wsX7_hasShare := goodIn_r _ [11, 1, 60, 61, 62, 63, 64, 65, 66, 67, 68] (by decide +kernel) (by decide +kernel)
set_option maxRecDepth 20000 in
theorem gX7_rebuild_X7_hasShare : GoodIn wsX7_rebuild (wsV RX7 61 RX7 yX7_hasShare wsX7_hasShare) := goodIn_app (goodIn_of _ (by decide +kernel)) ggX7_rebuild_X7_hasShare
set_option maxRecDepth 20000 in
theorem ggX7_rebuild_X7_honest : GoodIn wsX7_rebuild wsX7_honest := goodIn_r _ [15, 16, 1, 2, 3, 4, 5, 6, 7, 8, 9, 10, 11, 17, 18, 19, 20, 21, 22, 23, 24, 25, 26, 27, 28, 29, 30, 31, 32, 33, 34, 35, 36, 37, 38, 39, 40, 60, 61, 62, 63, 64, 65, 66, 67, 68] (by decide +kernel) (by decide +kernel)
set_option maxRecDepth 20000 in
theorem gX7_rebuild_X7_honest : GoodIn wsX7_rebuild (wsV RX7 123 RX7 yX7_honest wsX7_honest) := goodIn_app (goodIn_of _ (by decide +kernel)) ggX7_rebuild_X7_honest
set_option maxRecDepth 20000 in
theorem ggX7_rebuild_X7_bits : GoodIn wsX7_rebuild wsX7_bits := goodIn_r _ [43] (by decide +kernel) (by decide +kernel)
set_option maxRecDepth 20000 in
theorem gX7_rebuild_X7_bits : GoodIn wsX7_rebuild (va_wsS RX7 120 yX7_bits wsX7_bits) := goodIn_app (goodIn_of _ (by decide +kernel)) ggX7_rebuild_X7_bits
set_option maxRecDepth 20000 in
theorem ggX7_rebuild_X7_firstOf : GoodIn wsX7_rebuild wsX7_firstOf := goodIn_r _ [46, 47, 48, 5, 49, 41, 42, 43] (by decide +kernel) (by decide +kernel)
set_option maxRecDepth 20000 in
theorem gX7_rebuild_X7_firstOf : GoodIn wsX7_rebuild (va_wsS RX7 126 yX7_firstOf wsX7_firstOf) := goodIn_app (goodIn_of _ (by decide +kernel)) ggX7_rebuild_X7_firstOf
set_option maxRecDepth 20000 in
theorem ggX7_rebuild_X7_together : GoodIn wsX7_rebuild wsX7_together := goodIn_r _ [53, 47, 48, 5, 49, 17, 18, 19, 20, 1, 21, 22, 23, 24, 25, 26, 27, 28, 29, 30, 54, 55, 56, 57, 58, 59, 35, 36, 37, 60, 61, 62, 63, 64, 65, 66, 67, 68] (by decide +kernel) (by decide +kernel)
set_option maxRecDepth 20000 in
theorem gX7_rebuild_X7_together : GoodIn wsX7_rebuild (wsV RX7 129 RX7 yX7_together wsX7_together) := goodIn_app (goodIn_of _ (by decide +kernel)) ggX7_rebuild_X7_together
theorem dX7_rebuild_0 : decode cX7_rebuild 0 = .ok (.aload_n 0, 1) := by decide +kernel
theorem dX7_rebuild_1 : decode cX7_rebuild 1 = .ok (.iconst 1, 1) := by decide +kernel
theorem dX7_rebuild_2 : decode cX7_rebuild 2 = .ok (.invokevirtual 75, 3) := by decide +kernel
theorem dX7_rebuild_5 : decode cX7_rebuild 5 = .ok (.istore_n 1, 1) := by decide +kernel
theorem dX7_rebuild_6 : decode cX7_rebuild 6 = .ok (.aload_n 0, 1) := by decide +kernel
theorem dX7_rebuild_7 : decode cX7_rebuild 7 = .ok (.iload_n 1, 1) := by decide +kernel
theorem dX7_rebuild_8 : decode cX7_rebuild 8 = .ok (.invokevirtual 61, 3) := by decide +kernel
theorem dX7_rebuild_11 : decode cX7_rebuild 11 = .ok (.ifCond .eq 6, 3) := by decide +kernel
theorem dX7_rebuild_14 : decode cX7_rebuild 14 = .ok (.bipush (-5), 2) := by decide +kernel
theorem dX7_rebuild_16 : decode cX7_rebuild 16 = .ok (.ireturn, 1) := by decide +kernel
theorem dX7_rebuild_17 : decode cX7_rebuild 17 = .ok (.aload_n 0, 1) := by decide +kernel
theorem dX7_rebuild_18 : decode cX7_rebuild 18 = .ok (.iconst 2, 1) := by decide +kernel
theorem dX7_rebuild_19 : decode cX7_rebuild 19 = .ok (.invokevirtual 123, 3) := by decide +kernel
theorem dX7_rebuild_22 : decode cX7_rebuild 22 = .ok (.istore_n 2, 1) := by decide +kernel
theorem dX7_rebuild_23 : decode cX7_rebuild 23 = .ok (.iload_n 2, 1) := by decide +kernel
theorem dX7_rebuild_24 : decode cX7_rebuild 24 = .ok (.invokestatic 120, 3) := by decide +kernel
theorem dX7_rebuild_27 : decode cX7_rebuild 27 = .ok (.aload_n 0, 1) := by decide +kernel
theorem dX7_rebuild_28 : decode cX7_rebuild 28 = .ok (.getfield 7, 3) := by decide +kernel
theorem dX7_rebuild_31 : decode cX7_rebuild 31 = .ok (.bipush 88, 2) := by decide +kernel
theorem dX7_rebuild_33 : decode cX7_rebuild 33 = .ok (.iaload, 1) := by decide +kernel
theorem dX7_rebuild_34 : decode cX7_rebuild 34 = .ok (.if_icmp .ge 6, 3) := by decide +kernel
theorem dX7_rebuild_37 : decode cX7_rebuild 37 = .ok (.bipush (-5), 2) := by decide +kernel
theorem dX7_rebuild_39 : decode cX7_rebuild 39 = .ok (.ireturn, 1) := by decide +kernel
theorem dX7_rebuild_40 : decode cX7_rebuild 40 = .ok (.aload_n 0, 1) := by decide +kernel
theorem dX7_rebuild_41 : decode cX7_rebuild 41 = .ok (.getfield 7, 3) := by decide +kernel
theorem dX7_rebuild_44 : decode cX7_rebuild 44 = .ok (.bipush 40, 2) := by decide +kernel
theorem dX7_rebuild_46 : decode cX7_rebuild 46 = .ok (.iload_n 1, 1) := by decide +kernel
theorem dX7_rebuild_47 : decode cX7_rebuild 47 = .ok (.iadd, 1) := by decide +kernel
theorem dX7_rebuild_48 : decode cX7_rebuild 48 = .ok (.aload_n 0, 1) := by decide +kernel
theorem dX7_rebuild_49 : decode cX7_rebuild 49 = .ok (.iload_n 2, 1) := by decide +kernel
theorem dX7_rebuild_50 : decode cX7_rebuild 50 = .ok (.aload_n 0, 1) := by decide +kernel
theorem dX7_rebuild_51 : decode cX7_rebuild 51 = .ok (.getfield 7, 3) := by decide +kernel
theorem dX7_rebuild_54 : decode cX7_rebuild 54 = .ok (.bipush 88, 2) := by decide +kernel
theorem dX7_rebuild_56 : decode cX7_rebuild 56 = .ok (.iaload, 1) := by decide +kernel
theorem dX7_rebuild_57 : decode cX7_rebuild 57 = .ok (.invokestatic 126, 3) := by decide +kernel
theorem dX7_rebuild_60 : decode cX7_rebuild 60 = .ok (.iload_n 1, 1) := by decide +kernel
theorem dX7_rebuild_61 : decode cX7_rebuild 61 = .ok (.invokevirtual 129, 3) := by decide +kernel
theorem dX7_rebuild_64 : decode cX7_rebuild 64 = .ok (.iastore, 1) := by decide +kernel
theorem dX7_rebuild_65 : decode cX7_rebuild 65 = .ok (.iconst 1, 1) := by decide +kernel
theorem dX7_rebuild_66 : decode cX7_rebuild 66 = .ok (.ireturn, 1) := by decide +kernel
set_option maxRecDepth 20000 in
theorem ggX7_steal_X7_hasShare : GoodIn wsX7_steal wsX7_hasShare := goodIn_r _ [6, 1, 7, 8, 9, 10, 11, 12, 13, 14, 15] (by decide +kernel) (by decide +kernel)
set_option maxRecDepth 20000 in
theorem gX7_steal_X7_hasShare : GoodIn wsX7_steal (wsV RX7 61 RX7 yX7_hasShare wsX7_hasShare) := goodIn_app (goodIn_of _ (by decide +kernel)) ggX7_steal_X7_hasShare
theorem dX7_steal_0 : decode cX7_steal 0 = .ok (.aload_n 0, 1) := by decide +kernel
theorem dX7_steal_1 : decode cX7_steal 1 = .ok (.iload_n 1, 1) := by decide +kernel
theorem dX7_steal_2 : decode cX7_steal 2 = .ok (.invokevirtual 61, 3) := by decide +kernel
theorem dX7_steal_5 : decode cX7_steal 5 = .ok (.ifCond .ne 6, 3) := by decide +kernel
theorem dX7_steal_8 : decode cX7_steal 8 = .ok (.bipush (-5), 2) := by decide +kernel
theorem dX7_steal_10 : decode cX7_steal 10 = .ok (.ireturn, 1) := by decide +kernel
theorem dX7_steal_11 : decode cX7_steal 11 = .ok (.sipush 295, 3) := by decide +kernel
theorem dX7_steal_14 : decode cX7_steal 14 = .ok (.iconst 3, 1) := by decide +kernel
theorem dX7_steal_15 : decode cX7_steal 15 = .ok (.aload_n 0, 1) := by decide +kernel
theorem dX7_steal_16 : decode cX7_steal 16 = .ok (.getfield 7, 3) := by decide +kernel
theorem dX7_steal_19 : decode cX7_steal 19 = .ok (.sipush 367, 3) := by decide +kernel
theorem dX7_steal_22 : decode cX7_steal 22 = .ok (.iaload, 1) := by decide +kernel
theorem dX7_steal_23 : decode cX7_steal 23 = .ok (.imul, 1) := by decide +kernel
theorem dX7_steal_24 : decode cX7_steal 24 = .ok (.iadd, 1) := by decide +kernel
theorem dX7_steal_25 : decode cX7_steal 25 = .ok (.istore_n 2, 1) := by decide +kernel
theorem dX7_steal_26 : decode cX7_steal 26 = .ok (.aload_n 0, 1) := by decide +kernel
theorem dX7_steal_27 : decode cX7_steal 27 = .ok (.getfield 7, 3) := by decide +kernel
theorem dX7_steal_30 : decode cX7_steal 30 = .ok (.iload_n 2, 1) := by decide +kernel
theorem dX7_steal_31 : decode cX7_steal 31 = .ok (.iload_n 1, 1) := by decide +kernel
theorem dX7_steal_32 : decode cX7_steal 32 = .ok (.iastore, 1) := by decide +kernel
theorem dX7_steal_33 : decode cX7_steal 33 = .ok (.aload_n 0, 1) := by decide +kernel
theorem dX7_steal_34 : decode cX7_steal 34 = .ok (.getfield 7, 3) := by decide +kernel
theorem dX7_steal_37 : decode cX7_steal 37 = .ok (.iload_n 2, 1) := by decide +kernel
theorem dX7_steal_38 : decode cX7_steal 38 = .ok (.iconst 1, 1) := by decide +kernel
theorem dX7_steal_39 : decode cX7_steal 39 = .ok (.iadd, 1) := by decide +kernel
theorem dX7_steal_40 : decode cX7_steal 40 = .ok (.aload_n 0, 1) := by decide +kernel
theorem dX7_steal_41 : decode cX7_steal 41 = .ok (.getfield 7, 3) := by decide +kernel
theorem dX7_steal_44 : decode cX7_steal 44 = .ok (.bipush 89, 2) := by decide +kernel
theorem dX7_steal_46 : decode cX7_steal 46 = .ok (.iaload, 1) := by decide +kernel
theorem dX7_steal_47 : decode cX7_steal 47 = .ok (.iastore, 1) := by decide +kernel
theorem dX7_steal_48 : decode cX7_steal 48 = .ok (.aload_n 0, 1) := by decide +kernel
theorem dX7_steal_49 : decode cX7_steal 49 = .ok (.getfield 7, 3) := by decide +kernel
theorem dX7_steal_52 : decode cX7_steal 52 = .ok (.iload_n 2, 1) := by decide +kernel
theorem dX7_steal_53 : decode cX7_steal 53 = .ok (.iconst 2, 1) := by decide +kernel
theorem dX7_steal_54 : decode cX7_steal 54 = .ok (.iadd, 1) := by decide +kernel
theorem dX7_steal_55 : decode cX7_steal 55 = .ok (.aload_n 0, 1) := by decide +kernel
theorem dX7_steal_56 : decode cX7_steal 56 = .ok (.getfield 7, 3) := by decide +kernel
theorem dX7_steal_59 : decode cX7_steal 59 = .ok (.bipush 40, 2) := by decide +kernel
theorem dX7_steal_61 : decode cX7_steal 61 = .ok (.iload_n 1, 1) := by decide +kernel
theorem dX7_steal_62 : decode cX7_steal 62 = .ok (.iadd, 1) := by decide +kernel
theorem dX7_steal_63 : decode cX7_steal 63 = .ok (.iaload, 1) := by decide +kernel
theorem dX7_steal_64 : decode cX7_steal 64 = .ok (.iastore, 1) := by decide +kernel
theorem dX7_steal_65 : decode cX7_steal 65 = .ok (.aload_n 0, 1) := by decide +kernel
theorem dX7_steal_66 : decode cX7_steal 66 = .ok (.getfield 7, 3) := by decide +kernel
theorem dX7_steal_69 : decode cX7_steal 69 = .ok (.sipush 367, 3) := by decide +kernel
theorem dX7_steal_72 : decode cX7_steal 72 = .ok (.dup2, 1) := by decide +kernel
theorem dX7_steal_73 : decode cX7_steal 73 = .ok (.iaload, 1) := by decide +kernel
theorem dX7_steal_74 : decode cX7_steal 74 = .ok (.iconst 1, 1) := by decide +kernel
theorem dX7_steal_75 : decode cX7_steal 75 = .ok (.iadd, 1) := by decide +kernel
theorem dX7_steal_76 : decode cX7_steal 76 = .ok (.iastore, 1) := by decide +kernel
theorem dX7_steal_77 : decode cX7_steal 77 = .ok (.aload_n 0, 1) := by decide +kernel
theorem dX7_steal_78 : decode cX7_steal 78 = .ok (.getfield 7, 3) := by decide +kernel
theorem dX7_steal_81 : decode cX7_steal 81 = .ok (.sipush 367, 3) := by decide +kernel
theorem dX7_steal_84 : decode cX7_steal 84 = .ok (.iaload, 1) := by decide +kernel
theorem dX7_steal_85 : decode cX7_steal 85 = .ok (.ireturn, 1) := by decide +kernel
set_option maxRecDepth 20000 in
theorem ggX7_fresh_X7_hasShare : GoodIn wsX7_fresh wsX7_hasShare := goodIn_r _ [9, 2, 60, 61, 62, 63, 64, 65, 66, 67, 68] (by decide +kernel) (by decide +kernel)
set_option maxRecDepth 20000 in
theorem gX7_fresh_X7_hasShare : GoodIn wsX7_fresh (wsV RX7 61 RX7 yX7_hasShare wsX7_hasShare) := goodIn_app (goodIn_of _ (by decide +kernel)) ggX7_fresh_X7_hasShare
set_option maxRecDepth 20000 in
theorem ggX7_fresh_X7_layPoly : GoodIn wsX7_fresh wsX7_layPoly := goodIn_r _ [13, 3, 4, 2, 60, 61, 62, 63, 64, 65, 66, 67, 68] (by decide +kernel) (by decide +kernel)
set_option maxRecDepth 20000 in
theorem gX7_fresh_X7_layPoly : GoodIn wsX7_fresh (wsV RX7 106 RX7 yX7_layPoly wsX7_layPoly) := goodIn_app (goodIn_of _ (by decide +kernel)) ggX7_fresh_X7_layPoly
set_option maxRecDepth 20000 in
theorem ggX7_fresh_X7_isStruck : GoodIn wsX7_fresh wsX7_isStruck := goodIn_r _ [17, 2, 5, 6, 7, 8, 9, 18, 19, 20, 21, 3, 4, 22, 23, 24, 25, 26, 27, 28, 29, 30, 31, 32, 33, 34, 35, 36, 37, 38, 39, 40, 41, 60, 61, 62, 63, 64, 65, 66, 67, 68] (by decide +kernel) (by decide +kernel)
set_option maxRecDepth 20000 in
theorem gX7_fresh_X7_isStruck : GoodIn wsX7_fresh (wsV RX7 132 RX7 yX7_isStruck wsX7_isStruck) := goodIn_app (goodIn_of _ (by decide +kernel)) ggX7_fresh_X7_isStruck
set_option maxRecDepth 20000 in
theorem ggX7_fresh_X7_polyAt : GoodIn wsX7_fresh wsX7_polyAt := goodIn_r _ [21, 3, 4, 22, 23, 8, 24, 60, 61, 62, 63, 64, 65, 66, 67, 68] (by decide +kernel) (by decide +kernel)
set_option maxRecDepth 20000 in
theorem gX7_fresh_X7_polyAt : GoodIn wsX7_fresh (wsV RX7 100 RX7 yX7_polyAt wsX7_polyAt) := goodIn_app (goodIn_of _ (by decide +kernel)) ggX7_fresh_X7_polyAt
set_option maxRecDepth 20000 in
theorem ggX7_fresh_X7_sealOf : GoodIn wsX7_fresh wsX7_sealOf := goodIn_r _ [41, 22, 23, 8, 24] (by decide +kernel) (by decide +kernel)
set_option maxRecDepth 20000 in
theorem gX7_fresh_X7_sealOf : GoodIn wsX7_fresh (va_wsS RX7 58 yX7_sealOf wsX7_sealOf) := goodIn_app (goodIn_of _ (by decide +kernel)) ggX7_fresh_X7_sealOf
set_option maxRecDepth 20000 in
theorem ggX7_fresh_X7_mod : GoodIn wsX7_fresh wsX7_mod := goodIn_r _ [34] (by decide +kernel) (by decide +kernel)
set_option maxRecDepth 20000 in
theorem gX7_fresh_X7_mod : GoodIn wsX7_fresh (va_wsS RX7 54 yX7_mod wsX7_mod) := goodIn_app (goodIn_of _ (by decide +kernel)) ggX7_fresh_X7_mod
set_option maxRecDepth 20000 in
theorem ggX7_fresh_X7_nextEpoch : GoodIn wsX7_fresh wsX7_nextEpoch := goodIn_r _ [45, 2, 60, 61, 62, 63, 64, 65, 66, 67, 68] (by decide +kernel) (by decide +kernel)
set_option maxRecDepth 20000 in
theorem gX7_fresh_X7_nextEpoch : GoodIn wsX7_fresh (wsV RX7 114 RX7 yX7_nextEpoch wsX7_nextEpoch) := goodIn_app (goodIn_of _ (by decide +kernel)) ggX7_fresh_X7_nextEpoch
set_option maxRecDepth 20000 in
theorem ggX7_fresh_X7_strike : GoodIn wsX7_fresh wsX7_strike := goodIn_r _ [49, 2, 50, 51, 8, 52, 60, 61, 62, 63, 64, 65, 66, 67, 68] (by decide +kernel) (by decide +kernel)
set_option maxRecDepth 20000 in
theorem gX7_fresh_X7_strike : GoodIn wsX7_fresh (wsV RX7 135 RX7 yX7_strike wsX7_strike) := goodIn_app (goodIn_of _ (by decide +kernel)) ggX7_fresh_X7_strike
set_option maxRecDepth 20000 in
theorem ggX7_fresh_X7_having : GoodIn wsX7_fresh wsX7_having := goodIn_r _ [56, 5, 6, 7, 8, 9, 2, 60, 61, 62, 63, 64, 65, 66, 67, 68] (by decide +kernel) (by decide +kernel)
set_option maxRecDepth 20000 in
theorem gX7_fresh_X7_having : GoodIn wsX7_fresh (wsV RX7 117 RX7 yX7_having wsX7_having) := goodIn_app (goodIn_of _ (by decide +kernel)) ggX7_fresh_X7_having
set_option maxRecDepth 20000 in
theorem ggX7_fresh_X7_bits : GoodIn wsX7_fresh wsX7_bits := goodIn_r _ [59] (by decide +kernel) (by decide +kernel)
set_option maxRecDepth 20000 in
theorem gX7_fresh_X7_bits : GoodIn wsX7_fresh (va_wsS RX7 120 yX7_bits wsX7_bits) := goodIn_app (goodIn_of _ (by decide +kernel)) ggX7_fresh_X7_bits
theorem dX7_fresh_0 : decode cX7_fresh 0 = .ok (.iconst 0, 1) := by decide +kernel
theorem dX7_fresh_1 : decode cX7_fresh 1 = .ok (.istore_n 1, 1) := by decide +kernel
theorem dX7_fresh_2 : decode cX7_fresh 2 = .ok (.iload_n 1, 1) := by decide +kernel
theorem dX7_fresh_3 : decode cX7_fresh 3 = .ok (.bipush 8, 2) := by decide +kernel
theorem dX7_fresh_5 : decode cX7_fresh 5 = .ok (.if_icmp .ge 16, 3) := by decide +kernel
theorem dX7_fresh_8 : decode cX7_fresh 8 = .ok (.aload_n 0, 1) := by decide +kernel
theorem dX7_fresh_9 : decode cX7_fresh 9 = .ok (.getfield 19, 3) := by decide +kernel
theorem dX7_fresh_12 : decode cX7_fresh 12 = .ok (.iload_n 1, 1) := by decide +kernel
theorem dX7_fresh_13 : decode cX7_fresh 13 = .ok (.iconst 0, 1) := by decide +kernel
theorem dX7_fresh_14 : decode cX7_fresh 14 = .ok (.iastore, 1) := by decide +kernel
theorem dX7_fresh_15 : decode cX7_fresh 15 = .ok (.iinc 1 1, 3) := by decide +kernel
theorem dX7_fresh_18 : decode cX7_fresh 18 = .ok (.goto (-16), 3) := by decide +kernel
theorem dX7_fresh_21 : decode cX7_fresh 21 = .ok (.iconst 1, 1) := by decide +kernel
theorem dX7_fresh_22 : decode cX7_fresh 22 = .ok (.istore_n 1, 1) := by decide +kernel
theorem dX7_fresh_23 : decode cX7_fresh 23 = .ok (.iload_n 1, 1) := by decide +kernel
theorem dX7_fresh_24 : decode cX7_fresh 24 = .ok (.bipush 7, 2) := by decide +kernel
theorem dX7_fresh_26 : decode cX7_fresh 26 = .ok (.if_icmp .gt 113, 3) := by decide +kernel
theorem dX7_fresh_29 : decode cX7_fresh 29 = .ok (.aload_n 0, 1) := by decide +kernel
theorem dX7_fresh_30 : decode cX7_fresh 30 = .ok (.iload_n 1, 1) := by decide +kernel
theorem dX7_fresh_31 : decode cX7_fresh 31 = .ok (.invokevirtual 61, 3) := by decide +kernel
theorem dX7_fresh_34 : decode cX7_fresh 34 = .ok (.ifCond .eq 99, 3) := by decide +kernel
theorem dX7_fresh_37 : decode cX7_fresh 37 = .ok (.aload_n 0, 1) := by decide +kernel
theorem dX7_fresh_38 : decode cX7_fresh 38 = .ok (.iload_n 1, 1) := by decide +kernel
theorem dX7_fresh_39 : decode cX7_fresh 39 = .ok (.iconst 0, 1) := by decide +kernel
theorem dX7_fresh_40 : decode cX7_fresh 40 = .ok (.aload_n 0, 1) := by decide +kernel
theorem dX7_fresh_41 : decode cX7_fresh 41 = .ok (.getfield 7, 3) := by decide +kernel
theorem dX7_fresh_44 : decode cX7_fresh 44 = .ok (.bipush 88, 2) := by decide +kernel
theorem dX7_fresh_46 : decode cX7_fresh 46 = .ok (.iaload, 1) := by decide +kernel
theorem dX7_fresh_47 : decode cX7_fresh 47 = .ok (.invokevirtual 106, 3) := by decide +kernel
theorem dX7_fresh_50 : decode cX7_fresh 50 = .ok (.aload_n 0, 1) := by decide +kernel
theorem dX7_fresh_51 : decode cX7_fresh 51 = .ok (.iload_n 1, 1) := by decide +kernel
theorem dX7_fresh_52 : decode cX7_fresh 52 = .ok (.invokevirtual 132, 3) := by decide +kernel
theorem dX7_fresh_55 : decode cX7_fresh 55 = .ok (.ifCond .ne 78, 3) := by decide +kernel
theorem dX7_fresh_58 : decode cX7_fresh 58 = .ok (.iconst 1, 1) := by decide +kernel
theorem dX7_fresh_59 : decode cX7_fresh 59 = .ok (.istore_n 2, 1) := by decide +kernel
theorem dX7_fresh_60 : decode cX7_fresh 60 = .ok (.iload_n 2, 1) := by decide +kernel
theorem dX7_fresh_61 : decode cX7_fresh 61 = .ok (.bipush 7, 2) := by decide +kernel
theorem dX7_fresh_63 : decode cX7_fresh 63 = .ok (.if_icmp .gt 23, 3) := by decide +kernel
theorem dX7_fresh_66 : decode cX7_fresh 66 = .ok (.aload_n 0, 1) := by decide +kernel
theorem dX7_fresh_67 : decode cX7_fresh 67 = .ok (.getfield 19, 3) := by decide +kernel
theorem dX7_fresh_70 : decode cX7_fresh 70 = .ok (.iload_n 2, 1) := by decide +kernel
theorem dX7_fresh_71 : decode cX7_fresh 71 = .ok (.dup2, 1) := by decide +kernel
theorem dX7_fresh_72 : decode cX7_fresh 72 = .ok (.iaload, 1) := by decide +kernel
theorem dX7_fresh_73 : decode cX7_fresh 73 = .ok (.aload_n 0, 1) := by decide +kernel
theorem dX7_fresh_74 : decode cX7_fresh 74 = .ok (.iload_n 2, 1) := by decide +kernel
theorem dX7_fresh_75 : decode cX7_fresh 75 = .ok (.invokevirtual 100, 3) := by decide +kernel
theorem dX7_fresh_78 : decode cX7_fresh 78 = .ok (.iadd, 1) := by decide +kernel
theorem dX7_fresh_79 : decode cX7_fresh 79 = .ok (.iastore, 1) := by decide +kernel
theorem dX7_fresh_80 : decode cX7_fresh 80 = .ok (.iinc 2 1, 3) := by decide +kernel
theorem dX7_fresh_83 : decode cX7_fresh 83 = .ok (.goto (-23), 3) := by decide +kernel
theorem dX7_fresh_86 : decode cX7_fresh 86 = .ok (.iconst 0, 1) := by decide +kernel
theorem dX7_fresh_87 : decode cX7_fresh 87 = .ok (.istore_n 2, 1) := by decide +kernel
theorem dX7_fresh_88 : decode cX7_fresh 88 = .ok (.iload_n 2, 1) := by decide +kernel
theorem dX7_fresh_89 : decode cX7_fresh 89 = .ok (.aload_n 0, 1) := by decide +kernel
theorem dX7_fresh_90 : decode cX7_fresh 90 = .ok (.getfield 97, 3) := by decide +kernel
theorem dX7_fresh_93 : decode cX7_fresh 93 = .ok (.if_icmp .ge 40, 3) := by decide +kernel
theorem dX7_fresh_96 : decode cX7_fresh 96 = .ok (.aload_n 0, 1) := by decide +kernel
theorem dX7_fresh_97 : decode cX7_fresh 97 = .ok (.getfield 7, 3) := by decide +kernel
theorem dX7_fresh_100 : decode cX7_fresh 100 = .ok (.bipush 90, 2) := by decide +kernel
theorem dX7_fresh_102 : decode cX7_fresh 102 = .ok (.iload_n 2, 1) := by decide +kernel
theorem dX7_fresh_103 : decode cX7_fresh 103 = .ok (.iadd, 1) := by decide +kernel
theorem dX7_fresh_104 : decode cX7_fresh 104 = .ok (.aload_n 0, 1) := by decide +kernel
theorem dX7_fresh_105 : decode cX7_fresh 105 = .ok (.getfield 7, 3) := by decide +kernel
theorem dX7_fresh_108 : decode cX7_fresh 108 = .ok (.bipush 90, 2) := by decide +kernel
theorem dX7_fresh_110 : decode cX7_fresh 110 = .ok (.iload_n 2, 1) := by decide +kernel
theorem dX7_fresh_111 : decode cX7_fresh 111 = .ok (.iadd, 1) := by decide +kernel
theorem dX7_fresh_112 : decode cX7_fresh 112 = .ok (.iaload, 1) := by decide +kernel
theorem dX7_fresh_113 : decode cX7_fresh 113 = .ok (.aload_n 0, 1) := by decide +kernel
theorem dX7_fresh_114 : decode cX7_fresh 114 = .ok (.getfield 16, 3) := by decide +kernel
theorem dX7_fresh_117 : decode cX7_fresh 117 = .ok (.iload_n 2, 1) := by decide +kernel
theorem dX7_fresh_118 : decode cX7_fresh 118 = .ok (.iaload, 1) := by decide +kernel
theorem dX7_fresh_119 : decode cX7_fresh 119 = .ok (.invokestatic 58, 3) := by decide +kernel
theorem dX7_fresh_122 : decode cX7_fresh 122 = .ok (.imul, 1) := by decide +kernel
theorem dX7_fresh_123 : decode cX7_fresh 123 = .ok (.bipush 47, 2) := by decide +kernel
theorem dX7_fresh_125 : decode cX7_fresh 125 = .ok (.irem, 1) := by decide +kernel
theorem dX7_fresh_126 : decode cX7_fresh 126 = .ok (.iastore, 1) := by decide +kernel
theorem dX7_fresh_127 : decode cX7_fresh 127 = .ok (.iinc 2 1, 3) := by decide +kernel
theorem dX7_fresh_130 : decode cX7_fresh 130 = .ok (.goto (-42), 3) := by decide +kernel
theorem dX7_fresh_133 : decode cX7_fresh 133 = .ok (.iinc 1 1, 3) := by decide +kernel
theorem dX7_fresh_136 : decode cX7_fresh 136 = .ok (.goto (-113), 3) := by decide +kernel
theorem dX7_fresh_139 : decode cX7_fresh 139 = .ok (.iconst 1, 1) := by decide +kernel
theorem dX7_fresh_140 : decode cX7_fresh 140 = .ok (.istore_n 1, 1) := by decide +kernel
theorem dX7_fresh_141 : decode cX7_fresh 141 = .ok (.iload_n 1, 1) := by decide +kernel
theorem dX7_fresh_142 : decode cX7_fresh 142 = .ok (.bipush 7, 2) := by decide +kernel
theorem dX7_fresh_144 : decode cX7_fresh 144 = .ok (.if_icmp .gt 50, 3) := by decide +kernel
theorem dX7_fresh_147 : decode cX7_fresh 147 = .ok (.aload_n 0, 1) := by decide +kernel
theorem dX7_fresh_148 : decode cX7_fresh 148 = .ok (.getfield 7, 3) := by decide +kernel
theorem dX7_fresh_151 : decode cX7_fresh 151 = .ok (.bipush 40, 2) := by decide +kernel
theorem dX7_fresh_153 : decode cX7_fresh 153 = .ok (.iload_n 1, 1) := by decide +kernel
theorem dX7_fresh_154 : decode cX7_fresh 154 = .ok (.iadd, 1) := by decide +kernel
theorem dX7_fresh_155 : decode cX7_fresh 155 = .ok (.aload_n 0, 1) := by decide +kernel
theorem dX7_fresh_156 : decode cX7_fresh 156 = .ok (.iload_n 1, 1) := by decide +kernel
theorem dX7_fresh_157 : decode cX7_fresh 157 = .ok (.invokevirtual 61, 3) := by decide +kernel
theorem dX7_fresh_160 : decode cX7_fresh 160 = .ok (.ifCond .eq 25, 3) := by decide +kernel
theorem dX7_fresh_163 : decode cX7_fresh 163 = .ok (.aload_n 0, 1) := by decide +kernel
theorem dX7_fresh_164 : decode cX7_fresh 164 = .ok (.getfield 7, 3) := by decide +kernel
theorem dX7_fresh_167 : decode cX7_fresh 167 = .ok (.bipush 40, 2) := by decide +kernel
theorem dX7_fresh_169 : decode cX7_fresh 169 = .ok (.iload_n 1, 1) := by decide +kernel
theorem dX7_fresh_170 : decode cX7_fresh 170 = .ok (.iadd, 1) := by decide +kernel
theorem dX7_fresh_171 : decode cX7_fresh 171 = .ok (.iaload, 1) := by decide +kernel
theorem dX7_fresh_172 : decode cX7_fresh 172 = .ok (.aload_n 0, 1) := by decide +kernel
theorem dX7_fresh_173 : decode cX7_fresh 173 = .ok (.getfield 19, 3) := by decide +kernel
theorem dX7_fresh_176 : decode cX7_fresh 176 = .ok (.iload_n 1, 1) := by decide +kernel
theorem dX7_fresh_177 : decode cX7_fresh 177 = .ok (.iaload, 1) := by decide +kernel
theorem dX7_fresh_178 : decode cX7_fresh 178 = .ok (.iadd, 1) := by decide +kernel
theorem dX7_fresh_179 : decode cX7_fresh 179 = .ok (.invokestatic 54, 3) := by decide +kernel
theorem dX7_fresh_182 : decode cX7_fresh 182 = .ok (.goto 5, 3) := by decide +kernel
theorem dX7_fresh_185 : decode cX7_fresh 185 = .ok (.bipush (-6), 2) := by decide +kernel
theorem dX7_fresh_187 : decode cX7_fresh 187 = .ok (.iastore, 1) := by decide +kernel
theorem dX7_fresh_188 : decode cX7_fresh 188 = .ok (.iinc 1 1, 3) := by decide +kernel
theorem dX7_fresh_191 : decode cX7_fresh 191 = .ok (.goto (-50), 3) := by decide +kernel
theorem dX7_fresh_194 : decode cX7_fresh 194 = .ok (.aload_n 0, 1) := by decide +kernel
theorem dX7_fresh_195 : decode cX7_fresh 195 = .ok (.invokevirtual 114, 3) := by decide +kernel
theorem dX7_fresh_198 : decode cX7_fresh 198 = .ok (.aload_n 0, 1) := by decide +kernel
theorem dX7_fresh_199 : decode cX7_fresh 199 = .ok (.invokevirtual 135, 3) := by decide +kernel
theorem dX7_fresh_202 : decode cX7_fresh 202 = .ok (.aload_n 0, 1) := by decide +kernel
theorem dX7_fresh_203 : decode cX7_fresh 203 = .ok (.invokevirtual 117, 3) := by decide +kernel
theorem dX7_fresh_206 : decode cX7_fresh 206 = .ok (.invokestatic 120, 3) := by decide +kernel
theorem dX7_fresh_209 : decode cX7_fresh 209 = .ok (.ireturn, 1) := by decide +kernel
set_option maxRecDepth 20000 in
theorem ggX7_takenFor_X7_bits : GoodIn wsX7_takenFor wsX7_bits := goodIn_r _ [6] (by decide +kernel) (by decide +kernel)
set_option maxRecDepth 20000 in
theorem gX7_takenFor_X7_bits : GoodIn wsX7_takenFor (va_wsS RX7 120 yX7_bits wsX7_bits) := goodIn_app (goodIn_of _ (by decide +kernel)) ggX7_takenFor_X7_bits
set_option maxRecDepth 20000 in
theorem ggX7_takenFor_X7_figure : GoodIn wsX7_takenFor wsX7_figure := goodIn_r _ [10, 11, 58, 59, 60, 61, 62, 63, 64, 65, 66] (by decide +kernel) (by decide +kernel)
set_option maxRecDepth 20000 in
theorem gX7_takenFor_X7_figure : GoodIn wsX7_takenFor (wsV RX7 75 RX7 yX7_figure wsX7_figure) := goodIn_app (goodIn_of _ (by decide +kernel)) ggX7_takenFor_X7_figure
set_option maxRecDepth 20000 in
theorem ggX7_takenFor_X7_hasShare : GoodIn wsX7_takenFor wsX7_hasShare := goodIn_r _ [15, 2, 58, 59, 60, 61, 62, 63, 64, 65, 66] (by decide +kernel) (by decide +kernel)
set_option maxRecDepth 20000 in
theorem gX7_takenFor_X7_hasShare : GoodIn wsX7_takenFor (wsV RX7 61 RX7 yX7_hasShare wsX7_hasShare) := goodIn_app (goodIn_of _ (by decide +kernel)) ggX7_takenFor_X7_hasShare
set_option maxRecDepth 20000 in
theorem ggX7_takenFor_X7_told : GoodIn wsX7_takenFor wsX7_told := goodIn_r _ [19, 2, 20, 21, 22, 5, 23, 24, 25, 26, 27, 28, 29, 58, 59, 60, 61, 62, 63, 64, 65, 66] (by decide +kernel) (by decide +kernel)
set_option maxRecDepth 20000 in
theorem gX7_takenFor_X7_told : GoodIn wsX7_takenFor (wsV RX7 64 RX7 yX7_told wsX7_told) := goodIn_app (goodIn_of _ (by decide +kernel)) ggX7_takenFor_X7_told
set_option maxRecDepth 20000 in
theorem ggX7_takenFor_X7_isFit : GoodIn wsX7_takenFor wsX7_isFit := goodIn_r _ [33, 2, 34, 35, 5, 36, 37, 38, 39, 58, 59, 60, 61, 62, 63, 64, 65, 66] (by decide +kernel) (by decide +kernel)
set_option maxRecDepth 20000 in
theorem gX7_takenFor_X7_isFit : GoodIn wsX7_takenFor (wsV RX7 67 RX7 yX7_isFit wsX7_isFit) := goodIn_app (goodIn_of _ (by decide +kernel)) ggX7_takenFor_X7_isFit
set_option maxRecDepth 20000 in
theorem ggX7_takenFor_X7_layPoly : GoodIn wsX7_takenFor wsX7_layPoly := goodIn_r _ [43, 44, 45, 2, 58, 59, 60, 61, 62, 63, 64, 65, 66] (by decide +kernel) (by decide +kernel)
set_option maxRecDepth 20000 in
theorem gX7_takenFor_X7_layPoly : GoodIn wsX7_takenFor (wsV RX7 106 RX7 yX7_layPoly wsX7_layPoly) := goodIn_app (goodIn_of _ (by decide +kernel)) ggX7_takenFor_X7_layPoly
set_option maxRecDepth 20000 in
theorem ggX7_takenFor_X7_isStruck : GoodIn wsX7_takenFor wsX7_isStruck := goodIn_r _ [49, 2, 12, 13, 14, 5, 15, 50, 51, 52, 53, 44, 45, 34, 35, 36, 20, 21, 22, 23, 24, 25, 26, 27, 28, 29, 54, 55, 56, 57, 37, 38, 39, 58, 59, 60, 61, 62, 63, 64, 65, 66] (by decide +kernel) (by decide +kernel)
set_option maxRecDepth 20000 in
theorem gX7_takenFor_X7_isStruck : GoodIn wsX7_takenFor (wsV RX7 132 RX7 yX7_isStruck wsX7_isStruck) := goodIn_app (goodIn_of _ (by decide +kernel)) ggX7_takenFor_X7_isStruck
theorem dX7_takenFor_0 : decode cX7_takenFor 0 = .ok (.iconst 0, 1) := by decide +kernel
theorem dX7_takenFor_1 : decode cX7_takenFor 1 = .ok (.istore_n 2, 1) := by decide +kernel
theorem dX7_takenFor_2 : decode cX7_takenFor 2 = .ok (.iconst 2, 1) := by decide +kernel
theorem dX7_takenFor_3 : decode cX7_takenFor 3 = .ok (.istore_n 3, 1) := by decide +kernel
theorem dX7_takenFor_4 : decode cX7_takenFor 4 = .ok (.iload_n 3, 1) := by decide +kernel
theorem dX7_takenFor_5 : decode cX7_takenFor 5 = .ok (.aload_n 0, 1) := by decide +kernel
theorem dX7_takenFor_6 : decode cX7_takenFor 6 = .ok (.getfield 71, 3) := by decide +kernel
theorem dX7_takenFor_9 : decode cX7_takenFor 9 = .ok (.if_icmp .ge 105, 3) := by decide +kernel
theorem dX7_takenFor_12 : decode cX7_takenFor 12 = .ok (.iload_n 2, 1) := by decide +kernel
theorem dX7_takenFor_13 : decode cX7_takenFor 13 = .ok (.invokestatic 120, 3) := by decide +kernel
theorem dX7_takenFor_16 : decode cX7_takenFor 16 = .ok (.aload_n 0, 1) := by decide +kernel
theorem dX7_takenFor_17 : decode cX7_takenFor 17 = .ok (.getfield 7, 3) := by decide +kernel
theorem dX7_takenFor_20 : decode cX7_takenFor 20 = .ok (.bipush 88, 2) := by decide +kernel
theorem dX7_takenFor_22 : decode cX7_takenFor 22 = .ok (.iaload, 1) := by decide +kernel
theorem dX7_takenFor_23 : decode cX7_takenFor 23 = .ok (.if_icmp .ge 91, 3) := by decide +kernel
theorem dX7_takenFor_26 : decode cX7_takenFor 26 = .ok (.aload_n 0, 1) := by decide +kernel
theorem dX7_takenFor_27 : decode cX7_takenFor 27 = .ok (.iload_n 3, 1) := by decide +kernel
theorem dX7_takenFor_28 : decode cX7_takenFor 28 = .ok (.invokevirtual 75, 3) := by decide +kernel
theorem dX7_takenFor_31 : decode cX7_takenFor 31 = .ok (.istore 4, 2) := by decide +kernel
theorem dX7_takenFor_33 : decode cX7_takenFor 33 = .ok (.aload_n 0, 1) := by decide +kernel
theorem dX7_takenFor_34 : decode cX7_takenFor 34 = .ok (.iload 4, 2) := by decide +kernel
theorem dX7_takenFor_36 : decode cX7_takenFor 36 = .ok (.invokevirtual 61, 3) := by decide +kernel
theorem dX7_takenFor_39 : decode cX7_takenFor 39 = .ok (.ifCond .eq 69, 3) := by decide +kernel
theorem dX7_takenFor_42 : decode cX7_takenFor 42 = .ok (.aload_n 0, 1) := by decide +kernel
theorem dX7_takenFor_43 : decode cX7_takenFor 43 = .ok (.aload_n 0, 1) := by decide +kernel
theorem dX7_takenFor_44 : decode cX7_takenFor 44 = .ok (.iload 4, 2) := by decide +kernel
theorem dX7_takenFor_46 : decode cX7_takenFor 46 = .ok (.invokevirtual 64, 3) := by decide +kernel
theorem dX7_takenFor_49 : decode cX7_takenFor 49 = .ok (.iload 4, 2) := by decide +kernel
theorem dX7_takenFor_51 : decode cX7_takenFor 51 = .ok (.invokevirtual 67, 3) := by decide +kernel
theorem dX7_takenFor_54 : decode cX7_takenFor 54 = .ok (.ifCond .ne 21, 3) := by decide +kernel
theorem dX7_takenFor_57 : decode cX7_takenFor 57 = .ok (.aload_n 0, 1) := by decide +kernel
theorem dX7_takenFor_58 : decode cX7_takenFor 58 = .ok (.getfield 7, 3) := by decide +kernel
theorem dX7_takenFor_61 : decode cX7_takenFor 61 = .ok (.sipush 369, 3) := by decide +kernel
theorem dX7_takenFor_64 : decode cX7_takenFor 64 = .ok (.dup2, 1) := by decide +kernel
theorem dX7_takenFor_65 : decode cX7_takenFor 65 = .ok (.iaload, 1) := by decide +kernel
theorem dX7_takenFor_66 : decode cX7_takenFor 66 = .ok (.iconst 1, 1) := by decide +kernel
theorem dX7_takenFor_67 : decode cX7_takenFor 67 = .ok (.iload 4, 2) := by decide +kernel
theorem dX7_takenFor_69 : decode cX7_takenFor 69 = .ok (.ishl, 1) := by decide +kernel
theorem dX7_takenFor_70 : decode cX7_takenFor 70 = .ok (.ior, 1) := by decide +kernel
theorem dX7_takenFor_71 : decode cX7_takenFor 71 = .ok (.iastore, 1) := by decide +kernel
theorem dX7_takenFor_72 : decode cX7_takenFor 72 = .ok (.goto 36, 3) := by decide +kernel
theorem dX7_takenFor_75 : decode cX7_takenFor 75 = .ok (.aload_n 0, 1) := by decide +kernel
theorem dX7_takenFor_76 : decode cX7_takenFor 76 = .ok (.iload 4, 2) := by decide +kernel
theorem dX7_takenFor_78 : decode cX7_takenFor 78 = .ok (.aload_n 0, 1) := by decide +kernel
theorem dX7_takenFor_79 : decode cX7_takenFor 79 = .ok (.iload 4, 2) := by decide +kernel
theorem dX7_takenFor_81 : decode cX7_takenFor 81 = .ok (.invokevirtual 64, 3) := by decide +kernel
theorem dX7_takenFor_84 : decode cX7_takenFor 84 = .ok (.iload_n 1, 1) := by decide +kernel
theorem dX7_takenFor_85 : decode cX7_takenFor 85 = .ok (.invokevirtual 106, 3) := by decide +kernel
theorem dX7_takenFor_88 : decode cX7_takenFor 88 = .ok (.iload_n 2, 1) := by decide +kernel
theorem dX7_takenFor_89 : decode cX7_takenFor 89 = .ok (.aload_n 0, 1) := by decide +kernel
theorem dX7_takenFor_90 : decode cX7_takenFor 90 = .ok (.iload 4, 2) := by decide +kernel
theorem dX7_takenFor_92 : decode cX7_takenFor 92 = .ok (.invokevirtual 132, 3) := by decide +kernel
theorem dX7_takenFor_95 : decode cX7_takenFor 95 = .ok (.ifCond .eq 7, 3) := by decide +kernel
theorem dX7_takenFor_98 : decode cX7_takenFor 98 = .ok (.iconst 0, 1) := by decide +kernel
theorem dX7_takenFor_99 : decode cX7_takenFor 99 = .ok (.goto 7, 3) := by decide +kernel
theorem dX7_takenFor_102 : decode cX7_takenFor 102 = .ok (.iconst 1, 1) := by decide +kernel
theorem dX7_takenFor_103 : decode cX7_takenFor 103 = .ok (.iload 4, 2) := by decide +kernel
theorem dX7_takenFor_105 : decode cX7_takenFor 105 = .ok (.ishl, 1) := by decide +kernel
theorem dX7_takenFor_106 : decode cX7_takenFor 106 = .ok (.ior, 1) := by decide +kernel
theorem dX7_takenFor_107 : decode cX7_takenFor 107 = .ok (.istore_n 2, 1) := by decide +kernel
theorem dX7_takenFor_108 : decode cX7_takenFor 108 = .ok (.iinc 3 1, 3) := by decide +kernel
theorem dX7_takenFor_111 : decode cX7_takenFor 111 = .ok (.goto (-107), 3) := by decide +kernel
theorem dX7_takenFor_114 : decode cX7_takenFor 114 = .ok (.iload_n 2, 1) := by decide +kernel
theorem dX7_takenFor_115 : decode cX7_takenFor 115 = .ok (.ireturn, 1) := by decide +kernel
set_option maxRecDepth 20000 in
theorem ggX7_move_X7_takenFor : GoodIn wsX7_move wsX7_takenFor := goodIn_r _ [9, 10, 1, 11, 12, 8, 13, 14, 15, 16, 17, 18, 19, 20, 21, 22, 23, 24, 25, 26, 27, 28, 29, 30, 31, 32, 33, 34, 35, 36, 37, 38, 39, 40, 41, 42, 43, 44, 45, 46, 47, 48, 49, 50, 51, 4, 52, 53, 54, 55, 56, 57, 58, 59, 60, 61, 62, 63, 85, 86, 87, 88, 89, 90, 91, 92, 93] (by decide +kernel) (by decide +kernel)
set_option maxRecDepth 20000 in
theorem gX7_move_X7_takenFor : GoodIn wsX7_move (wsV RX7 138 RX7 yX7_takenFor wsX7_takenFor) := goodIn_app (goodIn_of _ (by decide +kernel)) ggX7_move_X7_takenFor
set_option maxRecDepth 20000 in
theorem ggX7_move_X7_bits : GoodIn wsX7_move wsX7_bits := goodIn_r _ [13] (by decide +kernel) (by decide +kernel)
set_option maxRecDepth 20000 in
theorem gX7_move_X7_bits : GoodIn wsX7_move (va_wsS RX7 120 yX7_bits wsX7_bits) := goodIn_app (goodIn_of _ (by decide +kernel)) ggX7_move_X7_bits
set_option maxRecDepth 20000 in
theorem ggX7_move_X7_has : GoodIn wsX7_move wsX7_has := goodIn_r _ [66] (by decide +kernel) (by decide +kernel)
set_option maxRecDepth 20000 in
theorem gX7_move_X7_has : GoodIn wsX7_move (va_wsS RX7 88 yX7_has wsX7_has) := goodIn_app (goodIn_of _ (by decide +kernel)) ggX7_move_X7_has
set_option maxRecDepth 20000 in
theorem ggX7_move_X7_weight : GoodIn wsX7_move wsX7_weight := goodIn_r _ [69, 64, 65, 8, 66, 34, 35, 36, 70, 71, 72, 41, 42, 43] (by decide +kernel) (by decide +kernel)
set_option maxRecDepth 20000 in
theorem gX7_move_X7_weight : GoodIn wsX7_move (va_wsS RX7 94 yX7_weight wsX7_weight) := goodIn_app (goodIn_of _ (by decide +kernel)) ggX7_move_X7_weight
set_option maxRecDepth 20000 in
theorem ggX7_move_X7_told : GoodIn wsX7_move wsX7_told := goodIn_r _ [26, 1, 27, 28, 29, 8, 30, 31, 32, 33, 34, 35, 36, 85, 86, 87, 88, 89, 90, 91, 92, 93] (by decide +kernel) (by decide +kernel)
set_option maxRecDepth 20000 in
theorem gX7_move_X7_told : GoodIn wsX7_move (wsV RX7 64 RX7 yX7_told wsX7_told) := goodIn_app (goodIn_of _ (by decide +kernel)) ggX7_move_X7_told
set_option maxRecDepth 20000 in
theorem ggX7_move_X7_layPoly : GoodIn wsX7_move wsX7_layPoly := goodIn_r _ [50, 51, 4, 1, 85, 86, 87, 88, 89, 90, 91, 92, 93] (by decide +kernel) (by decide +kernel)
set_option maxRecDepth 20000 in
theorem gX7_move_X7_layPoly : GoodIn wsX7_move (wsV RX7 106 RX7 yX7_layPoly wsX7_layPoly) := goodIn_app (goodIn_of _ (by decide +kernel)) ggX7_move_X7_layPoly
set_option maxRecDepth 20000 in
theorem ggX7_move_X7_polyAt : GoodIn wsX7_move wsX7_polyAt := goodIn_r _ [59, 51, 4, 41, 42, 8, 43, 85, 86, 87, 88, 89, 90, 91, 92, 93] (by decide +kernel) (by decide +kernel)
set_option maxRecDepth 20000 in
theorem gX7_move_X7_polyAt : GoodIn wsX7_move (wsV RX7 100 RX7 yX7_polyAt wsX7_polyAt) := goodIn_app (goodIn_of _ (by decide +kernel)) ggX7_move_X7_polyAt
set_option maxRecDepth 20000 in
theorem ggX7_move_X7_sealOf : GoodIn wsX7_move wsX7_sealOf := goodIn_r _ [46, 41, 42, 8, 43] (by decide +kernel) (by decide +kernel)
set_option maxRecDepth 20000 in
theorem gX7_move_X7_sealOf : GoodIn wsX7_move (va_wsS RX7 58 yX7_sealOf wsX7_sealOf) := goodIn_app (goodIn_of _ (by decide +kernel)) ggX7_move_X7_sealOf
set_option maxRecDepth 20000 in
theorem ggX7_move_X7_power : GoodIn wsX7_move wsX7_power := goodIn_r _ [43] (by decide +kernel) (by decide +kernel)
set_option maxRecDepth 20000 in
theorem gX7_move_X7_power : GoodIn wsX7_move (va_wsS RX7 40 yX7_power wsX7_power) := goodIn_app (goodIn_of _ (by decide +kernel)) ggX7_move_X7_power
set_option maxRecDepth 20000 in
theorem ggX7_move_X7_hasShare : GoodIn wsX7_move wsX7_hasShare := goodIn_r _ [22, 1, 85, 86, 87, 88, 89, 90, 91, 92, 93] (by decide +kernel) (by decide +kernel)
set_option maxRecDepth 20000 in
theorem gX7_move_X7_hasShare : GoodIn wsX7_move (wsV RX7 61 RX7 yX7_hasShare wsX7_hasShare) := goodIn_app (goodIn_of _ (by decide +kernel)) ggX7_move_X7_hasShare
set_option maxRecDepth 20000 in
theorem ggX7_move_X7_mod : GoodIn wsX7_move wsX7_mod := goodIn_r _ [36] (by decide +kernel) (by decide +kernel)
set_option maxRecDepth 20000 in
theorem gX7_move_X7_mod : GoodIn wsX7_move (va_wsS RX7 54 yX7_mod wsX7_mod) := goodIn_app (goodIn_of _ (by decide +kernel)) ggX7_move_X7_mod
set_option maxRecDepth 20000 in
theorem ggX7_move_X7_nextEpoch : GoodIn wsX7_move wsX7_nextEpoch := goodIn_r _ [76, 1, 85, 86, 87, 88, 89, 90, 91, 92, 93] (by decide +kernel) (by decide +kernel)
set_option maxRecDepth 20000 in
theorem gX7_move_X7_nextEpoch : GoodIn wsX7_move (wsV RX7 114 RX7 yX7_nextEpoch wsX7_nextEpoch) := goodIn_app (goodIn_of _ (by decide +kernel)) ggX7_move_X7_nextEpoch
set_option maxRecDepth 20000 in
theorem ggX7_move_X7_strike : GoodIn wsX7_move wsX7_strike := goodIn_r _ [80, 1, 64, 65, 8, 66, 85, 86, 87, 88, 89, 90, 91, 92, 93] (by decide +kernel) (by decide +kernel)
set_option maxRecDepth 20000 in
theorem gX7_move_X7_strike : GoodIn wsX7_move (wsV RX7 135 RX7 yX7_strike wsX7_strike) := goodIn_app (goodIn_of _ (by decide +kernel)) ggX7_move_X7_strike
set_option maxRecDepth 20000 in
theorem ggX7_move_X7_having : GoodIn wsX7_move wsX7_having := goodIn_r _ [84, 19, 20, 21, 8, 22, 1, 85, 86, 87, 88, 89, 90, 91, 92, 93] (by decide +kernel) (by decide +kernel)
set_option maxRecDepth 20000 in
theorem gX7_move_X7_having : GoodIn wsX7_move (wsV RX7 117 RX7 yX7_having wsX7_having) := goodIn_app (goodIn_of _ (by decide +kernel)) ggX7_move_X7_having
theorem dX7_move_0 : decode cX7_move 0 = .ok (.aload_n 0, 1) := by decide +kernel
theorem dX7_move_1 : decode cX7_move 1 = .ok (.iload_n 1, 1) := by decide +kernel
theorem dX7_move_2 : decode cX7_move 2 = .ok (.invokevirtual 138, 3) := by decide +kernel
theorem dX7_move_5 : decode cX7_move 5 = .ok (.istore_n 2, 1) := by decide +kernel
theorem dX7_move_6 : decode cX7_move 6 = .ok (.iload_n 2, 1) := by decide +kernel
theorem dX7_move_7 : decode cX7_move 7 = .ok (.invokestatic 120, 3) := by decide +kernel
theorem dX7_move_10 : decode cX7_move 10 = .ok (.aload_n 0, 1) := by decide +kernel
theorem dX7_move_11 : decode cX7_move 11 = .ok (.getfield 7, 3) := by decide +kernel
theorem dX7_move_14 : decode cX7_move 14 = .ok (.bipush 88, 2) := by decide +kernel
theorem dX7_move_16 : decode cX7_move 16 = .ok (.iaload, 1) := by decide +kernel
theorem dX7_move_17 : decode cX7_move 17 = .ok (.if_icmp .ge 6, 3) := by decide +kernel
theorem dX7_move_20 : decode cX7_move 20 = .ok (.bipush (-5), 2) := by decide +kernel
theorem dX7_move_22 : decode cX7_move 22 = .ok (.ireturn, 1) := by decide +kernel
theorem dX7_move_23 : decode cX7_move 23 = .ok (.iconst 0, 1) := by decide +kernel
theorem dX7_move_24 : decode cX7_move 24 = .ok (.istore_n 3, 1) := by decide +kernel
theorem dX7_move_25 : decode cX7_move 25 = .ok (.iload_n 3, 1) := by decide +kernel
theorem dX7_move_26 : decode cX7_move 26 = .ok (.bipush 8, 2) := by decide +kernel
theorem dX7_move_28 : decode cX7_move 28 = .ok (.if_icmp .ge 16, 3) := by decide +kernel
theorem dX7_move_31 : decode cX7_move 31 = .ok (.aload_n 0, 1) := by decide +kernel
theorem dX7_move_32 : decode cX7_move 32 = .ok (.getfield 19, 3) := by decide +kernel
theorem dX7_move_35 : decode cX7_move 35 = .ok (.iload_n 3, 1) := by decide +kernel
theorem dX7_move_36 : decode cX7_move 36 = .ok (.iconst 0, 1) := by decide +kernel
theorem dX7_move_37 : decode cX7_move 37 = .ok (.iastore, 1) := by decide +kernel
theorem dX7_move_38 : decode cX7_move 38 = .ok (.iinc 3 1, 3) := by decide +kernel
theorem dX7_move_41 : decode cX7_move 41 = .ok (.goto (-16), 3) := by decide +kernel
theorem dX7_move_44 : decode cX7_move 44 = .ok (.iconst 0, 1) := by decide +kernel
theorem dX7_move_45 : decode cX7_move 45 = .ok (.istore_n 3, 1) := by decide +kernel
theorem dX7_move_46 : decode cX7_move 46 = .ok (.iload_n 3, 1) := by decide +kernel
theorem dX7_move_47 : decode cX7_move 47 = .ok (.iload_n 1, 1) := by decide +kernel
theorem dX7_move_48 : decode cX7_move 48 = .ok (.if_icmp .ge 16, 3) := by decide +kernel
theorem dX7_move_51 : decode cX7_move 51 = .ok (.aload_n 0, 1) := by decide +kernel
theorem dX7_move_52 : decode cX7_move 52 = .ok (.getfield 22, 3) := by decide +kernel
theorem dX7_move_55 : decode cX7_move 55 = .ok (.iload_n 3, 1) := by decide +kernel
theorem dX7_move_56 : decode cX7_move 56 = .ok (.iconst 1, 1) := by decide +kernel
theorem dX7_move_57 : decode cX7_move 57 = .ok (.iastore, 1) := by decide +kernel
theorem dX7_move_58 : decode cX7_move 58 = .ok (.iinc 3 1, 3) := by decide +kernel
theorem dX7_move_61 : decode cX7_move 61 = .ok (.goto (-15), 3) := by decide +kernel
theorem dX7_move_64 : decode cX7_move 64 = .ok (.iconst 1, 1) := by decide +kernel
theorem dX7_move_65 : decode cX7_move 65 = .ok (.istore_n 3, 1) := by decide +kernel
theorem dX7_move_66 : decode cX7_move 66 = .ok (.iload_n 3, 1) := by decide +kernel
theorem dX7_move_67 : decode cX7_move 67 = .ok (.bipush 7, 2) := by decide +kernel
theorem dX7_move_69 : decode cX7_move 69 = .ok (.if_icmp .gt 121, 3) := by decide +kernel
theorem dX7_move_72 : decode cX7_move 72 = .ok (.iload_n 2, 1) := by decide +kernel
theorem dX7_move_73 : decode cX7_move 73 = .ok (.iload_n 3, 1) := by decide +kernel
theorem dX7_move_74 : decode cX7_move 74 = .ok (.invokestatic 88, 3) := by decide +kernel
theorem dX7_move_77 : decode cX7_move 77 = .ok (.ifCond .eq 107, 3) := by decide +kernel
theorem dX7_move_80 : decode cX7_move 80 = .ok (.iload_n 3, 1) := by decide +kernel
theorem dX7_move_81 : decode cX7_move 81 = .ok (.iload_n 2, 1) := by decide +kernel
theorem dX7_move_82 : decode cX7_move 82 = .ok (.iconst 0, 1) := by decide +kernel
theorem dX7_move_83 : decode cX7_move 83 = .ok (.invokestatic 94, 3) := by decide +kernel
theorem dX7_move_86 : decode cX7_move 86 = .ok (.istore 4, 2) := by decide +kernel
theorem dX7_move_88 : decode cX7_move 88 = .ok (.aload_n 0, 1) := by decide +kernel
theorem dX7_move_89 : decode cX7_move 89 = .ok (.iload_n 3, 1) := by decide +kernel
theorem dX7_move_90 : decode cX7_move 90 = .ok (.aload_n 0, 1) := by decide +kernel
theorem dX7_move_91 : decode cX7_move 91 = .ok (.iload_n 3, 1) := by decide +kernel
theorem dX7_move_92 : decode cX7_move 92 = .ok (.invokevirtual 64, 3) := by decide +kernel
theorem dX7_move_95 : decode cX7_move 95 = .ok (.iload_n 1, 1) := by decide +kernel
theorem dX7_move_96 : decode cX7_move 96 = .ok (.invokevirtual 106, 3) := by decide +kernel
theorem dX7_move_99 : decode cX7_move 99 = .ok (.iconst 1, 1) := by decide +kernel
theorem dX7_move_100 : decode cX7_move 100 = .ok (.istore 5, 2) := by decide +kernel
theorem dX7_move_102 : decode cX7_move 102 = .ok (.iload 5, 2) := by decide +kernel
theorem dX7_move_104 : decode cX7_move 104 = .ok (.bipush 7, 2) := by decide +kernel
theorem dX7_move_106 : decode cX7_move 106 = .ok (.if_icmp .gt 28, 3) := by decide +kernel
theorem dX7_move_109 : decode cX7_move 109 = .ok (.aload_n 0, 1) := by decide +kernel
theorem dX7_move_110 : decode cX7_move 110 = .ok (.getfield 19, 3) := by decide +kernel
theorem dX7_move_113 : decode cX7_move 113 = .ok (.iload 5, 2) := by decide +kernel
theorem dX7_move_115 : decode cX7_move 115 = .ok (.dup2, 1) := by decide +kernel
theorem dX7_move_116 : decode cX7_move 116 = .ok (.iaload, 1) := by decide +kernel
theorem dX7_move_117 : decode cX7_move 117 = .ok (.aload_n 0, 1) := by decide +kernel
theorem dX7_move_118 : decode cX7_move 118 = .ok (.iload 5, 2) := by decide +kernel
theorem dX7_move_120 : decode cX7_move 120 = .ok (.invokevirtual 100, 3) := by decide +kernel
theorem dX7_move_123 : decode cX7_move 123 = .ok (.iload 4, 2) := by decide +kernel
theorem dX7_move_125 : decode cX7_move 125 = .ok (.imul, 1) := by decide +kernel
theorem dX7_move_126 : decode cX7_move 126 = .ok (.iadd, 1) := by decide +kernel
theorem dX7_move_127 : decode cX7_move 127 = .ok (.iastore, 1) := by decide +kernel
theorem dX7_move_128 : decode cX7_move 128 = .ok (.iinc 5 1, 3) := by decide +kernel
theorem dX7_move_131 : decode cX7_move 131 = .ok (.goto (-29), 3) := by decide +kernel
theorem dX7_move_134 : decode cX7_move 134 = .ok (.iconst 0, 1) := by decide +kernel
theorem dX7_move_135 : decode cX7_move 135 = .ok (.istore 5, 2) := by decide +kernel
theorem dX7_move_137 : decode cX7_move 137 = .ok (.iload 5, 2) := by decide +kernel
theorem dX7_move_139 : decode cX7_move 139 = .ok (.iload_n 1, 1) := by decide +kernel
theorem dX7_move_140 : decode cX7_move 140 = .ok (.if_icmp .ge 44, 3) := by decide +kernel
theorem dX7_move_143 : decode cX7_move 143 = .ok (.aload_n 0, 1) := by decide +kernel
theorem dX7_move_144 : decode cX7_move 144 = .ok (.getfield 22, 3) := by decide +kernel
theorem dX7_move_147 : decode cX7_move 147 = .ok (.iload 5, 2) := by decide +kernel
theorem dX7_move_149 : decode cX7_move 149 = .ok (.aload_n 0, 1) := by decide +kernel
theorem dX7_move_150 : decode cX7_move 150 = .ok (.getfield 22, 3) := by decide +kernel
theorem dX7_move_153 : decode cX7_move 153 = .ok (.iload 5, 2) := by decide +kernel
theorem dX7_move_155 : decode cX7_move 155 = .ok (.iaload, 1) := by decide +kernel
theorem dX7_move_156 : decode cX7_move 156 = .ok (.aload_n 0, 1) := by decide +kernel
theorem dX7_move_157 : decode cX7_move 157 = .ok (.getfield 16, 3) := by decide +kernel
theorem dX7_move_160 : decode cX7_move 160 = .ok (.iload 5, 2) := by decide +kernel
theorem dX7_move_162 : decode cX7_move 162 = .ok (.iaload, 1) := by decide +kernel
theorem dX7_move_163 : decode cX7_move 163 = .ok (.invokestatic 58, 3) := by decide +kernel
theorem dX7_move_166 : decode cX7_move 166 = .ok (.iload 4, 2) := by decide +kernel
theorem dX7_move_168 : decode cX7_move 168 = .ok (.bipush 47, 2) := by decide +kernel
theorem dX7_move_170 : decode cX7_move 170 = .ok (.invokestatic 40, 3) := by decide +kernel
theorem dX7_move_173 : decode cX7_move 173 = .ok (.imul, 1) := by decide +kernel
theorem dX7_move_174 : decode cX7_move 174 = .ok (.bipush 47, 2) := by decide +kernel
theorem dX7_move_176 : decode cX7_move 176 = .ok (.irem, 1) := by decide +kernel
theorem dX7_move_177 : decode cX7_move 177 = .ok (.iastore, 1) := by decide +kernel
theorem dX7_move_178 : decode cX7_move 178 = .ok (.iinc 5 1, 3) := by decide +kernel
theorem dX7_move_181 : decode cX7_move 181 = .ok (.goto (-44), 3) := by decide +kernel
theorem dX7_move_184 : decode cX7_move 184 = .ok (.iinc 3 1, 3) := by decide +kernel
theorem dX7_move_187 : decode cX7_move 187 = .ok (.goto (-121), 3) := by decide +kernel
theorem dX7_move_190 : decode cX7_move 190 = .ok (.iconst 1, 1) := by decide +kernel
theorem dX7_move_191 : decode cX7_move 191 = .ok (.istore_n 3, 1) := by decide +kernel
theorem dX7_move_192 : decode cX7_move 192 = .ok (.iload_n 3, 1) := by decide +kernel
theorem dX7_move_193 : decode cX7_move 193 = .ok (.bipush 7, 2) := by decide +kernel
theorem dX7_move_195 : decode cX7_move 195 = .ok (.if_icmp .gt 40, 3) := by decide +kernel
theorem dX7_move_198 : decode cX7_move 198 = .ok (.aload_n 0, 1) := by decide +kernel
theorem dX7_move_199 : decode cX7_move 199 = .ok (.getfield 7, 3) := by decide +kernel
theorem dX7_move_202 : decode cX7_move 202 = .ok (.bipush 40, 2) := by decide +kernel
theorem dX7_move_204 : decode cX7_move 204 = .ok (.iload_n 3, 1) := by decide +kernel
theorem dX7_move_205 : decode cX7_move 205 = .ok (.iadd, 1) := by decide +kernel
theorem dX7_move_206 : decode cX7_move 206 = .ok (.aload_n 0, 1) := by decide +kernel
theorem dX7_move_207 : decode cX7_move 207 = .ok (.iload_n 3, 1) := by decide +kernel
theorem dX7_move_208 : decode cX7_move 208 = .ok (.invokevirtual 61, 3) := by decide +kernel
theorem dX7_move_211 : decode cX7_move 211 = .ok (.ifCond .eq 15, 3) := by decide +kernel
theorem dX7_move_214 : decode cX7_move 214 = .ok (.aload_n 0, 1) := by decide +kernel
theorem dX7_move_215 : decode cX7_move 215 = .ok (.getfield 19, 3) := by decide +kernel
theorem dX7_move_218 : decode cX7_move 218 = .ok (.iload_n 3, 1) := by decide +kernel
theorem dX7_move_219 : decode cX7_move 219 = .ok (.iaload, 1) := by decide +kernel
theorem dX7_move_220 : decode cX7_move 220 = .ok (.invokestatic 54, 3) := by decide +kernel
theorem dX7_move_223 : decode cX7_move 223 = .ok (.goto 5, 3) := by decide +kernel
theorem dX7_move_226 : decode cX7_move 226 = .ok (.bipush (-6), 2) := by decide +kernel
theorem dX7_move_228 : decode cX7_move 228 = .ok (.iastore, 1) := by decide +kernel
theorem dX7_move_229 : decode cX7_move 229 = .ok (.iinc 3 1, 3) := by decide +kernel
theorem dX7_move_232 : decode cX7_move 232 = .ok (.goto (-40), 3) := by decide +kernel
theorem dX7_move_235 : decode cX7_move 235 = .ok (.iconst 0, 1) := by decide +kernel
theorem dX7_move_236 : decode cX7_move 236 = .ok (.istore_n 3, 1) := by decide +kernel
theorem dX7_move_237 : decode cX7_move 237 = .ok (.iload_n 3, 1) := by decide +kernel
theorem dX7_move_238 : decode cX7_move 238 = .ok (.iload_n 1, 1) := by decide +kernel
theorem dX7_move_239 : decode cX7_move 239 = .ok (.if_icmp .ge 24, 3) := by decide +kernel
theorem dX7_move_242 : decode cX7_move 242 = .ok (.aload_n 0, 1) := by decide +kernel
theorem dX7_move_243 : decode cX7_move 243 = .ok (.getfield 7, 3) := by decide +kernel
theorem dX7_move_246 : decode cX7_move 246 = .ok (.bipush 90, 2) := by decide +kernel
theorem dX7_move_248 : decode cX7_move 248 = .ok (.iload_n 3, 1) := by decide +kernel
theorem dX7_move_249 : decode cX7_move 249 = .ok (.iadd, 1) := by decide +kernel
theorem dX7_move_250 : decode cX7_move 250 = .ok (.aload_n 0, 1) := by decide +kernel
theorem dX7_move_251 : decode cX7_move 251 = .ok (.getfield 22, 3) := by decide +kernel
theorem dX7_move_254 : decode cX7_move 254 = .ok (.iload_n 3, 1) := by decide +kernel
theorem dX7_move_255 : decode cX7_move 255 = .ok (.iaload, 1) := by decide +kernel
theorem dX7_move_256 : decode cX7_move 256 = .ok (.iastore, 1) := by decide +kernel
theorem dX7_move_257 : decode cX7_move 257 = .ok (.iinc 3 1, 3) := by decide +kernel
theorem dX7_move_260 : decode cX7_move 260 = .ok (.goto (-23), 3) := by decide +kernel
theorem dX7_move_263 : decode cX7_move 263 = .ok (.aload_n 0, 1) := by decide +kernel
theorem dX7_move_264 : decode cX7_move 264 = .ok (.getfield 7, 3) := by decide +kernel
theorem dX7_move_267 : decode cX7_move 267 = .ok (.bipush 88, 2) := by decide +kernel
theorem dX7_move_269 : decode cX7_move 269 = .ok (.iload_n 1, 1) := by decide +kernel
theorem dX7_move_270 : decode cX7_move 270 = .ok (.iastore, 1) := by decide +kernel
theorem dX7_move_271 : decode cX7_move 271 = .ok (.aload_n 0, 1) := by decide +kernel
theorem dX7_move_272 : decode cX7_move 272 = .ok (.invokevirtual 114, 3) := by decide +kernel
theorem dX7_move_275 : decode cX7_move 275 = .ok (.aload_n 0, 1) := by decide +kernel
theorem dX7_move_276 : decode cX7_move 276 = .ok (.invokevirtual 135, 3) := by decide +kernel
theorem dX7_move_279 : decode cX7_move 279 = .ok (.aload_n 0, 1) := by decide +kernel
theorem dX7_move_280 : decode cX7_move 280 = .ok (.invokevirtual 117, 3) := by decide +kernel
theorem dX7_move_283 : decode cX7_move 283 = .ok (.invokestatic 120, 3) := by decide +kernel
theorem dX7_move_286 : decode cX7_move 286 = .ok (.ireturn, 1) := by decide +kernel
set_option maxRecDepth 20000 in
theorem ggX7_done_X7_figure : GoodIn wsX7_done wsX7_figure := goodIn_r _ [5, 6, 128, 129, 130, 131, 132, 133, 134, 135, 136] (by decide +kernel) (by decide +kernel)
set_option maxRecDepth 20000 in
theorem gX7_done_X7_figure : GoodIn wsX7_done (wsV RX7 75 RX7 yX7_figure wsX7_figure) := goodIn_app (goodIn_of _ (by decide +kernel)) ggX7_done_X7_figure
set_option maxRecDepth 20000 in
theorem ggX7_done_X7_deal : GoodIn wsX7_done wsX7_deal := goodIn_r _ [10, 11, 12, 13, 14, 15, 4, 16, 17, 18, 19, 20, 21, 22, 23, 24, 25, 26, 27, 28, 29, 30, 31, 32, 33, 34, 35, 128, 129, 130, 131, 132, 133, 134, 135, 136] (by decide +kernel) (by decide +kernel)
set_option maxRecDepth 20000 in
theorem gX7_done_X7_deal : GoodIn wsX7_done (wsV RX7 141 RX7 yX7_deal wsX7_deal) := goodIn_app (goodIn_of _ (by decide +kernel)) ggX7_done_X7_deal
set_option maxRecDepth 20000 in
theorem ggX7_done_X7_forget : GoodIn wsX7_done wsX7_forget := goodIn_r _ [39, 11, 40, 41, 42, 4, 43, 44, 45, 46, 47, 48, 49, 50, 128, 129, 130, 131, 132, 133, 134, 135, 136] (by decide +kernel) (by decide +kernel)
set_option maxRecDepth 20000 in
theorem gX7_done_X7_forget : GoodIn wsX7_done (wsV RX7 144 RX7 yX7_forget wsX7_forget) := goodIn_app (goodIn_of _ (by decide +kernel)) ggX7_done_X7_forget
set_option maxRecDepth 20000 in
theorem ggX7_done_X7_open : GoodIn wsX7_done wsX7_open := goodIn_r _ [54, 11, 55, 56, 57, 4, 58, 59, 1, 2, 3, 5, 6, 44, 45, 46, 47, 60, 61, 62, 63, 64, 65, 66, 67, 68, 69, 70, 71, 72, 73, 74, 75, 76, 77, 21, 22, 23, 18, 19, 20, 48, 49, 50, 78, 79, 80, 81, 82, 83, 84, 85, 86, 87, 88, 89, 90, 91, 92, 93, 128, 129, 130, 131, 132, 133, 134, 135, 136] (by decide +kernel) (by decide +kernel)
set_option maxRecDepth 20000 in
theorem gX7_done_X7_open : GoodIn wsX7_done (wsV RX7 147 RX7 yX7_open wsX7_open) := goodIn_app (goodIn_of _ (by decide +kernel)) ggX7_done_X7_open
set_option maxRecDepth 20000 in
theorem ggX7_done_X7_rebuild : GoodIn wsX7_done wsX7_rebuild := goodIn_r _ [97, 11, 1, 2, 3, 4, 5, 6, 44, 45, 46, 47, 55, 56, 57, 58, 59, 60, 61, 62, 63, 64, 65, 66, 67, 68, 69, 70, 71, 72, 73, 74, 75, 76, 77, 21, 22, 23, 18, 19, 20, 48, 49, 50, 78, 79, 80, 81, 82, 83, 84, 85, 86, 87, 88, 89, 90, 91, 92, 93, 128, 129, 130, 131, 132, 133, 134, 135, 136] (by decide +kernel) (by decide +kernel)
set_option maxRecDepth 20000 in
theorem gX7_done_X7_rebuild : GoodIn wsX7_done (wsV RX7 150 RX7 yX7_rebuild wsX7_rebuild) := goodIn_app (goodIn_of _ (by decide +kernel)) ggX7_done_X7_rebuild
set_option maxRecDepth 20000 in
theorem ggX7_done_X7_steal : GoodIn wsX7_done wsX7_steal := goodIn_r _ [101, 11, 44, 45, 46, 4, 47, 128, 129, 130, 131, 132, 133, 134, 135, 136] (by decide +kernel) (by decide +kernel)
set_option maxRecDepth 20000 in
theorem gX7_done_X7_steal : GoodIn wsX7_done (wsV RX7 153 RX7 yX7_steal wsX7_steal) := goodIn_app (goodIn_of _ (by decide +kernel)) ggX7_done_X7_steal
set_option maxRecDepth 20000 in
theorem ggX7_done_X7_fresh : GoodIn wsX7_done wsX7_fresh := goodIn_r _ [105, 106, 11, 17, 12, 44, 45, 46, 4, 47, 13, 14, 15, 16, 107, 108, 109, 110, 24, 25, 26, 27, 21, 22, 23, 64, 65, 66, 67, 68, 69, 70, 71, 72, 73, 111, 112, 113, 114, 18, 19, 20, 32, 33, 34, 35, 115, 116, 117, 118, 81, 82, 83, 40, 41, 42, 43, 48, 49, 50, 128, 129, 130, 131, 132, 133, 134, 135, 136] (by decide +kernel) (by decide +kernel)
set_option maxRecDepth 20000 in
theorem gX7_done_X7_fresh : GoodIn wsX7_done (wsV RX7 156 RX7 yX7_fresh wsX7_fresh) := goodIn_app (goodIn_of _ (by decide +kernel)) ggX7_done_X7_fresh
set_option maxRecDepth 20000 in
theorem ggX7_done_X7_move : GoodIn wsX7_done wsX7_move := goodIn_r _ [122, 11, 106, 123, 12, 124, 125, 126, 4, 127, 59, 48, 49, 50, 1, 2, 3, 5, 6, 44, 45, 46, 47, 60, 61, 62, 63, 64, 65, 66, 67, 68, 69, 70, 71, 72, 73, 74, 75, 76, 77, 21, 22, 23, 18, 19, 20, 13, 14, 15, 16, 17, 107, 108, 109, 110, 24, 25, 26, 27, 111, 112, 113, 114, 81, 82, 83, 88, 89, 90, 91, 92, 93, 32, 33, 34, 35, 115, 116, 117, 118, 40, 41, 42, 43, 128, 129, 130, 131, 132, 133, 134, 135, 136] (by decide +kernel) (by decide +kernel)
set_option maxRecDepth 20000 in
theorem gX7_done_X7_move : GoodIn wsX7_done (wsV RX7 159 RX7 yX7_move wsX7_move) := goodIn_app (goodIn_of _ (by decide +kernel)) ggX7_done_X7_move
theorem dX7_done_0 : decode cX7_done 0 = .ok (.iload_n 1, 1) := by decide +kernel
theorem dX7_done_1 : decode cX7_done 1 = .ok (.lookupswitch 104 #[(98, 84), (100, 59), (102, 99), (111, 79), (115, 89), (119, 69)], 59) := by decide +kernel
theorem dX7_done_60 : decode cX7_done 60 = .ok (.aload_n 0, 1) := by decide +kernel
theorem dX7_done_61 : decode cX7_done 61 = .ok (.aload_n 0, 1) := by decide +kernel
theorem dX7_done_62 : decode cX7_done 62 = .ok (.iconst 1, 1) := by decide +kernel
theorem dX7_done_63 : decode cX7_done 63 = .ok (.invokevirtual 75, 3) := by decide +kernel
theorem dX7_done_66 : decode cX7_done 66 = .ok (.invokevirtual 141, 3) := by decide +kernel
theorem dX7_done_69 : decode cX7_done 69 = .ok (.ireturn, 1) := by decide +kernel
theorem dX7_done_70 : decode cX7_done 70 = .ok (.aload_n 0, 1) := by decide +kernel
theorem dX7_done_71 : decode cX7_done 71 = .ok (.aload_n 0, 1) := by decide +kernel
theorem dX7_done_72 : decode cX7_done 72 = .ok (.iconst 1, 1) := by decide +kernel
theorem dX7_done_73 : decode cX7_done 73 = .ok (.invokevirtual 75, 3) := by decide +kernel
theorem dX7_done_76 : decode cX7_done 76 = .ok (.invokevirtual 144, 3) := by decide +kernel
theorem dX7_done_79 : decode cX7_done 79 = .ok (.ireturn, 1) := by decide +kernel
theorem dX7_done_80 : decode cX7_done 80 = .ok (.aload_n 0, 1) := by decide +kernel
theorem dX7_done_81 : decode cX7_done 81 = .ok (.invokevirtual 147, 3) := by decide +kernel
theorem dX7_done_84 : decode cX7_done 84 = .ok (.ireturn, 1) := by decide +kernel
theorem dX7_done_85 : decode cX7_done 85 = .ok (.aload_n 0, 1) := by decide +kernel
theorem dX7_done_86 : decode cX7_done 86 = .ok (.invokevirtual 150, 3) := by decide +kernel
theorem dX7_done_89 : decode cX7_done 89 = .ok (.ireturn, 1) := by decide +kernel
theorem dX7_done_90 : decode cX7_done 90 = .ok (.aload_n 0, 1) := by decide +kernel
theorem dX7_done_91 : decode cX7_done 91 = .ok (.aload_n 0, 1) := by decide +kernel
theorem dX7_done_92 : decode cX7_done 92 = .ok (.iconst 1, 1) := by decide +kernel
theorem dX7_done_93 : decode cX7_done 93 = .ok (.invokevirtual 75, 3) := by decide +kernel
theorem dX7_done_96 : decode cX7_done 96 = .ok (.invokevirtual 153, 3) := by decide +kernel
theorem dX7_done_99 : decode cX7_done 99 = .ok (.ireturn, 1) := by decide +kernel
theorem dX7_done_100 : decode cX7_done 100 = .ok (.aload_n 0, 1) := by decide +kernel
theorem dX7_done_101 : decode cX7_done 101 = .ok (.invokevirtual 156, 3) := by decide +kernel
theorem dX7_done_104 : decode cX7_done 104 = .ok (.ireturn, 1) := by decide +kernel
theorem dX7_done_105 : decode cX7_done 105 = .ok (.aload_n 0, 1) := by decide +kernel
theorem dX7_done_106 : decode cX7_done 106 = .ok (.aload_n 0, 1) := by decide +kernel
theorem dX7_done_107 : decode cX7_done 107 = .ok (.iconst 1, 1) := by decide +kernel
theorem dX7_done_108 : decode cX7_done 108 = .ok (.invokevirtual 75, 3) := by decide +kernel
theorem dX7_done_111 : decode cX7_done 111 = .ok (.invokevirtual 159, 3) := by decide +kernel
theorem dX7_done_114 : decode cX7_done 114 = .ok (.ireturn, 1) := by decide +kernel
set_option maxRecDepth 20000 in
theorem ggX7_act_X7_faultNow : GoodIn wsX7_act wsX7_faultNow := goodIn_r _ [8, 3, 1, 9, 10, 7, 11, 12, 13, 14, 15, 16, 17, 18, 19, 20, 21, 22, 23, 24, 25, 149, 150, 151, 152, 153, 154, 155, 156, 157] (by decide +kernel) (by decide +kernel)
set_option maxRecDepth 20000 in
theorem gX7_act_X7_faultNow : GoodIn wsX7_act (wsV RX7 84 RX7 yX7_faultNow wsX7_faultNow) := goodIn_app (goodIn_of _ (by decide +kernel)) ggX7_act_X7_faultNow
set_option maxRecDepth 20000 in
theorem ggX7_act_X7_isDealt : GoodIn wsX7_act wsX7_isDealt := goodIn_r _ [29, 2, 149, 150, 151, 152, 153, 154, 155, 156, 157] (by decide +kernel) (by decide +kernel)
set_option maxRecDepth 20000 in
theorem gX7_act_X7_isDealt : GoodIn wsX7_act (wsV RX7 110 RX7 yX7_isDealt wsX7_isDealt) := goodIn_app (goodIn_of _ (by decide +kernel)) ggX7_act_X7_isDealt
set_option maxRecDepth 20000 in
theorem ggX7_act_X7_done : GoodIn wsX7_act wsX7_done := goodIn_r _ [33, 16, 17, 18, 7, 19, 1, 34, 35, 36, 37, 2, 38, 39, 40, 41, 42, 43, 44, 45, 46, 47, 48, 49, 50, 51, 52, 53, 26, 27, 28, 29, 54, 55, 56, 57, 58, 59, 60, 61, 62, 63, 64, 65, 66, 67, 68, 69, 70, 71, 72, 73, 74, 75, 76, 77, 78, 79, 80, 3, 81, 82, 83, 84, 85, 86, 87, 88, 89, 90, 91, 92, 93, 94, 95, 96, 97, 98, 99, 100, 101, 102, 103, 104, 105, 106, 107, 108, 109, 110, 111, 112, 113, 114, 115, 116, 117, 118, 119, 120, 121, 122, 123, 124, 125, 126, 127, 128, 129, 130, 131, 132, 133, 134, 135, 136, 137, 138, 139, 140, 141, 142, 143, 144, 145, 146, 147, 148, 149, 150, 151, 152, 153, 154, 155, 156, 157] (by decide +kernel) (by decide +kernel)
set_option maxRecDepth 20000 in
theorem gX7_act_X7_done : GoodIn wsX7_act (wsV RX7 162 RX7 yX7_done wsX7_done) := goodIn_app (goodIn_of _ (by decide +kernel)) ggX7_act_X7_done
theorem dX7_act_0 : decode cX7_act 0 = .ok (.aload_n 0, 1) := by decide +kernel
theorem dX7_act_1 : decode cX7_act 1 = .ok (.invokevirtual 84, 3) := by decide +kernel
theorem dX7_act_4 : decode cX7_act 4 = .ok (.ifCond .lt 6, 3) := by decide +kernel
theorem dX7_act_7 : decode cX7_act 7 = .ok (.bipush (-7), 2) := by decide +kernel
theorem dX7_act_9 : decode cX7_act 9 = .ok (.ireturn, 1) := by decide +kernel
theorem dX7_act_10 : decode cX7_act 10 = .ok (.aload_n 0, 1) := by decide +kernel
theorem dX7_act_11 : decode cX7_act 11 = .ok (.getfield 13, 3) := by decide +kernel
theorem dX7_act_14 : decode cX7_act 14 = .ok (.iconst 0, 1) := by decide +kernel
theorem dX7_act_15 : decode cX7_act 15 = .ok (.iaload, 1) := by decide +kernel
theorem dX7_act_16 : decode cX7_act 16 = .ok (.istore_n 1, 1) := by decide +kernel
theorem dX7_act_17 : decode cX7_act 17 = .ok (.aload_n 0, 1) := by decide +kernel
theorem dX7_act_18 : decode cX7_act 18 = .ok (.getfield 7, 3) := by decide +kernel
theorem dX7_act_21 : decode cX7_act 21 = .ok (.sipush 369, 3) := by decide +kernel
theorem dX7_act_24 : decode cX7_act 24 = .ok (.iconst 0, 1) := by decide +kernel
theorem dX7_act_25 : decode cX7_act 25 = .ok (.iastore, 1) := by decide +kernel
theorem dX7_act_26 : decode cX7_act 26 = .ok (.aload_n 0, 1) := by decide +kernel
theorem dX7_act_27 : decode cX7_act 27 = .ok (.getfield 7, 3) := by decide +kernel
theorem dX7_act_30 : decode cX7_act 30 = .ok (.sipush 370, 3) := by decide +kernel
theorem dX7_act_33 : decode cX7_act 33 = .ok (.iconst 0, 1) := by decide +kernel
theorem dX7_act_34 : decode cX7_act 34 = .ok (.iastore, 1) := by decide +kernel
theorem dX7_act_35 : decode cX7_act 35 = .ok (.iload_n 1, 1) := by decide +kernel
theorem dX7_act_36 : decode cX7_act 36 = .ok (.bipush 100, 2) := by decide +kernel
theorem dX7_act_38 : decode cX7_act 38 = .ok (.if_icmp .eq 13, 3) := by decide +kernel
theorem dX7_act_41 : decode cX7_act 41 = .ok (.aload_n 0, 1) := by decide +kernel
theorem dX7_act_42 : decode cX7_act 42 = .ok (.invokevirtual 110, 3) := by decide +kernel
theorem dX7_act_45 : decode cX7_act 45 = .ok (.ifCond .ne 6, 3) := by decide +kernel
theorem dX7_act_48 : decode cX7_act 48 = .ok (.bipush (-3), 2) := by decide +kernel
theorem dX7_act_50 : decode cX7_act 50 = .ok (.ireturn, 1) := by decide +kernel
theorem dX7_act_51 : decode cX7_act 51 = .ok (.iload_n 1, 1) := by decide +kernel
theorem dX7_act_52 : decode cX7_act 52 = .ok (.bipush 100, 2) := by decide +kernel
theorem dX7_act_54 : decode cX7_act 54 = .ok (.if_icmp .eq 15, 3) := by decide +kernel
theorem dX7_act_57 : decode cX7_act 57 = .ok (.iload_n 1, 1) := by decide +kernel
theorem dX7_act_58 : decode cX7_act 58 = .ok (.bipush 102, 2) := by decide +kernel
theorem dX7_act_60 : decode cX7_act 60 = .ok (.if_icmp .eq 9, 3) := by decide +kernel
theorem dX7_act_63 : decode cX7_act 63 = .ok (.iload_n 1, 1) := by decide +kernel
theorem dX7_act_64 : decode cX7_act 64 = .ok (.bipush 116, 2) := by decide +kernel
theorem dX7_act_66 : decode cX7_act 66 = .ok (.if_icmp .ne 20, 3) := by decide +kernel
theorem dX7_act_69 : decode cX7_act 69 = .ok (.aload_n 0, 1) := by decide +kernel
theorem dX7_act_70 : decode cX7_act 70 = .ok (.getfield 7, 3) := by decide +kernel
theorem dX7_act_73 : decode cX7_act 73 = .ok (.bipush 89, 2) := by decide +kernel
theorem dX7_act_75 : decode cX7_act 75 = .ok (.iaload, 1) := by decide +kernel
theorem dX7_act_76 : decode cX7_act 76 = .ok (.sipush 199, 3) := by decide +kernel
theorem dX7_act_79 : decode cX7_act 79 = .ok (.if_icmp .ne 7, 3) := by decide +kernel
theorem dX7_act_82 : decode cX7_act 82 = .ok (.iconst 1, 1) := by decide +kernel
theorem dX7_act_83 : decode cX7_act 83 = .ok (.goto 4, 3) := by decide +kernel
theorem dX7_act_86 : decode cX7_act 86 = .ok (.iconst 0, 1) := by decide +kernel
theorem dX7_act_87 : decode cX7_act 87 = .ok (.istore_n 2, 1) := by decide +kernel
theorem dX7_act_88 : decode cX7_act 88 = .ok (.iload_n 2, 1) := by decide +kernel
theorem dX7_act_89 : decode cX7_act 89 = .ok (.ifCond .ne 22, 3) := by decide +kernel
theorem dX7_act_92 : decode cX7_act 92 = .ok (.iload_n 1, 1) := by decide +kernel
theorem dX7_act_93 : decode cX7_act 93 = .ok (.bipush 115, 2) := by decide +kernel
theorem dX7_act_95 : decode cX7_act 95 = .ok (.if_icmp .ne 19, 3) := by decide +kernel
theorem dX7_act_98 : decode cX7_act 98 = .ok (.aload_n 0, 1) := by decide +kernel
theorem dX7_act_99 : decode cX7_act 99 = .ok (.getfield 7, 3) := by decide +kernel
theorem dX7_act_102 : decode cX7_act 102 = .ok (.sipush 367, 3) := by decide +kernel
theorem dX7_act_105 : decode cX7_act 105 = .ok (.iaload, 1) := by decide +kernel
theorem dX7_act_106 : decode cX7_act 106 = .ok (.bipush 24, 2) := by decide +kernel
theorem dX7_act_108 : decode cX7_act 108 = .ok (.if_icmp .ne 6, 3) := by decide +kernel
theorem dX7_act_111 : decode cX7_act 111 = .ok (.bipush (-4), 2) := by decide +kernel
theorem dX7_act_113 : decode cX7_act 113 = .ok (.ireturn, 1) := by decide +kernel
theorem dX7_act_114 : decode cX7_act 114 = .ok (.aload_n 0, 1) := by decide +kernel
theorem dX7_act_115 : decode cX7_act 115 = .ok (.iload_n 1, 1) := by decide +kernel
theorem dX7_act_116 : decode cX7_act 116 = .ok (.invokevirtual 162, 3) := by decide +kernel
theorem dX7_act_119 : decode cX7_act 119 = .ok (.istore_n 3, 1) := by decide +kernel
theorem dX7_act_120 : decode cX7_act 120 = .ok (.iload_n 3, 1) := by decide +kernel
theorem dX7_act_121 : decode cX7_act 121 = .ok (.ifCond .lt 20, 3) := by decide +kernel
theorem dX7_act_124 : decode cX7_act 124 = .ok (.aload_n 0, 1) := by decide +kernel
theorem dX7_act_125 : decode cX7_act 125 = .ok (.iconst 0, 1) := by decide +kernel
theorem dX7_act_126 : decode cX7_act 126 = .ok (.putfield 71, 3) := by decide +kernel
theorem dX7_act_129 : decode cX7_act 129 = .ok (.aload_n 0, 1) := by decide +kernel
theorem dX7_act_130 : decode cX7_act 130 = .ok (.getfield 7, 3) := by decide +kernel
theorem dX7_act_133 : decode cX7_act 133 = .ok (.sipush 368, 3) := by decide +kernel
theorem dX7_act_136 : decode cX7_act 136 = .ok (.dup2, 1) := by decide +kernel
theorem dX7_act_137 : decode cX7_act 137 = .ok (.iaload, 1) := by decide +kernel
theorem dX7_act_138 : decode cX7_act 138 = .ok (.iconst 1, 1) := by decide +kernel
theorem dX7_act_139 : decode cX7_act 139 = .ok (.iadd, 1) := by decide +kernel
theorem dX7_act_140 : decode cX7_act 140 = .ok (.iastore, 1) := by decide +kernel
theorem dX7_act_141 : decode cX7_act 141 = .ok (.iload_n 3, 1) := by decide +kernel
theorem dX7_act_142 : decode cX7_act 142 = .ok (.ireturn, 1) := by decide +kernel
theorem dX7_named_0 : decode cX7_named 0 = .ok (.iload_n 1, 1) := by decide +kernel
theorem dX7_named_1 : decode cX7_named 1 = .ok (.ifCond .ne 14, 3) := by decide +kernel
theorem dX7_named_4 : decode cX7_named 4 = .ok (.aload_n 0, 1) := by decide +kernel
theorem dX7_named_5 : decode cX7_named 5 = .ok (.getfield 7, 3) := by decide +kernel
theorem dX7_named_8 : decode cX7_named 8 = .ok (.sipush 369, 3) := by decide +kernel
theorem dX7_named_11 : decode cX7_named 11 = .ok (.iaload, 1) := by decide +kernel
theorem dX7_named_12 : decode cX7_named 12 = .ok (.goto 21, 3) := by decide +kernel
theorem dX7_named_15 : decode cX7_named 15 = .ok (.iload_n 1, 1) := by decide +kernel
theorem dX7_named_16 : decode cX7_named 16 = .ok (.iconst 1, 1) := by decide +kernel
theorem dX7_named_17 : decode cX7_named 17 = .ok (.if_icmp .ne 14, 3) := by decide +kernel
end
section
theorem dX7_named_20 : decode cX7_named 20 = .ok (.aload_n 0, 1) := by decide +kernel
theorem dX7_named_21 : decode cX7_named 21 = .ok (.getfield 7, 3) := by decide +kernel
theorem dX7_named_24 : decode cX7_named 24 = .ok (.sipush 370, 3) := by decide +kernel
theorem dX7_named_27 : decode cX7_named 27 = .ok (.iaload, 1) := by decide +kernel
theorem dX7_named_28 : decode cX7_named 28 = .ok (.goto 5, 3) := by decide +kernel
theorem dX7_named_31 : decode cX7_named 31 = .ok (.bipush (-2), 2) := by decide +kernel
theorem dX7_named_33 : decode cX7_named 33 = .ok (.ireturn, 1) := by decide +kernel
set_option maxRecDepth 20000 in
theorem ggX7_fits_X7_isValue : GoodIn wsX7_fits wsX7_isValue := goodIn_r _ [4, 5, 6, 3, 7] (by decide +kernel) (by decide +kernel)
set_option maxRecDepth 20000 in
theorem gX7_fits_X7_isValue : GoodIn wsX7_fits (va_wsS RX7 44 yX7_isValue wsX7_isValue) := goodIn_app (goodIn_of _ (by decide +kernel)) ggX7_fits_X7_isValue
set_option maxRecDepth 20000 in
theorem ggX7_fits_X7_isDealt : GoodIn wsX7_fits wsX7_isDealt := goodIn_r _ [11, 12, 23, 24, 25, 26, 27, 28, 29, 30, 31] (by decide +kernel) (by decide +kernel)
set_option maxRecDepth 20000 in
theorem gX7_fits_X7_isDealt : GoodIn wsX7_fits (wsV RX7 110 RX7 yX7_isDealt wsX7_isDealt) := goodIn_app (goodIn_of _ (by decide +kernel)) ggX7_fits_X7_isDealt
set_option maxRecDepth 20000 in
theorem ggX7_fits_X7_isFit : GoodIn wsX7_fits wsX7_isFit := goodIn_r _ [16, 12, 17, 18, 3, 19, 20, 21, 22, 23, 24, 25, 26, 27, 28, 29, 30, 31] (by decide +kernel) (by decide +kernel)
set_option maxRecDepth 20000 in
theorem gX7_fits_X7_isFit : GoodIn wsX7_fits (wsV RX7 67 RX7 yX7_isFit wsX7_isFit) := goodIn_app (goodIn_of _ (by decide +kernel)) ggX7_fits_X7_isFit
theorem dX7_fits_0 : decode cX7_fits 0 = .ok (.iload_n 1, 1) := by decide +kernel
theorem dX7_fits_1 : decode cX7_fits 1 = .ok (.invokestatic 44, 3) := by decide +kernel
theorem dX7_fits_4 : decode cX7_fits 4 = .ok (.ifCond .eq 10, 3) := by decide +kernel
theorem dX7_fits_7 : decode cX7_fits 7 = .ok (.iload_n 2, 1) := by decide +kernel
theorem dX7_fits_8 : decode cX7_fits 8 = .ok (.invokestatic 44, 3) := by decide +kernel
theorem dX7_fits_11 : decode cX7_fits 11 = .ok (.ifCond .ne 6, 3) := by decide +kernel
theorem dX7_fits_14 : decode cX7_fits 14 = .ok (.bipush (-2), 2) := by decide +kernel
theorem dX7_fits_16 : decode cX7_fits 16 = .ok (.ireturn, 1) := by decide +kernel
theorem dX7_fits_17 : decode cX7_fits 17 = .ok (.aload_n 0, 1) := by decide +kernel
theorem dX7_fits_18 : decode cX7_fits 18 = .ok (.invokevirtual 110, 3) := by decide +kernel
theorem dX7_fits_21 : decode cX7_fits 21 = .ok (.ifCond .ne 8, 3) := by decide +kernel
theorem dX7_fits_24 : decode cX7_fits 24 = .ok (.bipush (-3), 2) := by decide +kernel
theorem dX7_fits_26 : decode cX7_fits 26 = .ok (.goto 17, 3) := by decide +kernel
theorem dX7_fits_29 : decode cX7_fits 29 = .ok (.aload_n 0, 1) := by decide +kernel
theorem dX7_fits_30 : decode cX7_fits 30 = .ok (.iload_n 1, 1) := by decide +kernel
theorem dX7_fits_31 : decode cX7_fits 31 = .ok (.iload_n 2, 1) := by decide +kernel
theorem dX7_fits_32 : decode cX7_fits 32 = .ok (.invokevirtual 67, 3) := by decide +kernel
theorem dX7_fits_35 : decode cX7_fits 35 = .ok (.ifCond .eq 7, 3) := by decide +kernel
theorem dX7_fits_38 : decode cX7_fits 38 = .ok (.iconst 1, 1) := by decide +kernel
theorem dX7_fits_39 : decode cX7_fits 39 = .ok (.goto 4, 3) := by decide +kernel
theorem dX7_fits_42 : decode cX7_fits 42 = .ok (.iconst 0, 1) := by decide +kernel
theorem dX7_fits_43 : decode cX7_fits 43 = .ok (.ireturn, 1) := by decide +kernel
set_option maxRecDepth 20000 in
theorem ggX7_seal_X7_isDealt : GoodIn wsX7_seal wsX7_isDealt := goodIn_r _ [6, 1, 10, 11, 12, 13, 14, 15, 16, 17, 18] (by decide +kernel) (by decide +kernel)
set_option maxRecDepth 20000 in
theorem gX7_seal_X7_isDealt : GoodIn wsX7_seal (wsV RX7 110 RX7 yX7_isDealt wsX7_isDealt) := goodIn_app (goodIn_of _ (by decide +kernel)) ggX7_seal_X7_isDealt
set_option maxRecDepth 20000 in
theorem ggX7_seal_X7_in : GoodIn wsX7_seal wsX7_in := goodIn_r _ [9] (by decide +kernel) (by decide +kernel)
set_option maxRecDepth 20000 in
theorem gX7_seal_X7_in : GoodIn wsX7_seal (va_wsS RX7 36 yX7_in wsX7_in) := goodIn_app (goodIn_of _ (by decide +kernel)) ggX7_seal_X7_in
theorem dX7_seal_0 : decode cX7_seal 0 = .ok (.aload_n 0, 1) := by decide +kernel
theorem dX7_seal_1 : decode cX7_seal 1 = .ok (.invokevirtual 110, 3) := by decide +kernel
theorem dX7_seal_4 : decode cX7_seal 4 = .ok (.ifCond .ne 6, 3) := by decide +kernel
theorem dX7_seal_7 : decode cX7_seal 7 = .ok (.bipush (-3), 2) := by decide +kernel
theorem dX7_seal_9 : decode cX7_seal 9 = .ok (.ireturn, 1) := by decide +kernel
theorem dX7_seal_10 : decode cX7_seal 10 = .ok (.iload_n 1, 1) := by decide +kernel
theorem dX7_seal_11 : decode cX7_seal 11 = .ok (.iconst 0, 1) := by decide +kernel
theorem dX7_seal_12 : decode cX7_seal 12 = .ok (.aload_n 0, 1) := by decide +kernel
theorem dX7_seal_13 : decode cX7_seal 13 = .ok (.getfield 7, 3) := by decide +kernel
theorem dX7_seal_16 : decode cX7_seal 16 = .ok (.bipush 88, 2) := by decide +kernel
theorem dX7_seal_18 : decode cX7_seal 18 = .ok (.iaload, 1) := by decide +kernel
theorem dX7_seal_19 : decode cX7_seal 19 = .ok (.iconst 1, 1) := by decide +kernel
theorem dX7_seal_20 : decode cX7_seal 20 = .ok (.isub, 1) := by decide +kernel
theorem dX7_seal_21 : decode cX7_seal 21 = .ok (.invokestatic 36, 3) := by decide +kernel
theorem dX7_seal_24 : decode cX7_seal 24 = .ok (.ifCond .eq 15, 3) := by decide +kernel
theorem dX7_seal_27 : decode cX7_seal 27 = .ok (.aload_n 0, 1) := by decide +kernel
theorem dX7_seal_28 : decode cX7_seal 28 = .ok (.getfield 7, 3) := by decide +kernel
theorem dX7_seal_31 : decode cX7_seal 31 = .ok (.bipush 90, 2) := by decide +kernel
theorem dX7_seal_33 : decode cX7_seal 33 = .ok (.iload_n 1, 1) := by decide +kernel
theorem dX7_seal_34 : decode cX7_seal 34 = .ok (.iadd, 1) := by decide +kernel
theorem dX7_seal_35 : decode cX7_seal 35 = .ok (.iaload, 1) := by decide +kernel
theorem dX7_seal_36 : decode cX7_seal 36 = .ok (.goto 5, 3) := by decide +kernel
theorem dX7_seal_39 : decode cX7_seal 39 = .ok (.bipush (-6), 2) := by decide +kernel
theorem dX7_seal_41 : decode cX7_seal 41 = .ok (.ireturn, 1) := by decide +kernel
set_option maxRecDepth 20000 in
theorem ggX7_loot_X7_in : GoodIn wsX7_loot wsX7_in := goodIn_r _ [5] (by decide +kernel) (by decide +kernel)
set_option maxRecDepth 20000 in
theorem gX7_loot_X7_in : GoodIn wsX7_loot (va_wsS RX7 36 yX7_in wsX7_in) := goodIn_app (goodIn_of _ (by decide +kernel)) ggX7_loot_X7_in
theorem dX7_loot_0 : decode cX7_loot 0 = .ok (.iload_n 2, 1) := by decide +kernel
theorem dX7_loot_1 : decode cX7_loot 1 = .ok (.iconst 0, 1) := by decide +kernel
theorem dX7_loot_2 : decode cX7_loot 2 = .ok (.iconst 2, 1) := by decide +kernel
theorem dX7_loot_3 : decode cX7_loot 3 = .ok (.invokestatic 36, 3) := by decide +kernel
theorem dX7_loot_6 : decode cX7_loot 6 = .ok (.ifCond .ne 6, 3) := by decide +kernel
theorem dX7_loot_9 : decode cX7_loot 9 = .ok (.bipush (-2), 2) := by decide +kernel
theorem dX7_loot_11 : decode cX7_loot 11 = .ok (.ireturn, 1) := by decide +kernel
theorem dX7_loot_12 : decode cX7_loot 12 = .ok (.iload_n 1, 1) := by decide +kernel
theorem dX7_loot_13 : decode cX7_loot 13 = .ok (.iconst 0, 1) := by decide +kernel
theorem dX7_loot_14 : decode cX7_loot 14 = .ok (.aload_n 0, 1) := by decide +kernel
theorem dX7_loot_15 : decode cX7_loot 15 = .ok (.getfield 7, 3) := by decide +kernel
theorem dX7_loot_18 : decode cX7_loot 18 = .ok (.sipush 367, 3) := by decide +kernel
theorem dX7_loot_21 : decode cX7_loot 21 = .ok (.iaload, 1) := by decide +kernel
theorem dX7_loot_22 : decode cX7_loot 22 = .ok (.iconst 1, 1) := by decide +kernel
theorem dX7_loot_23 : decode cX7_loot 23 = .ok (.isub, 1) := by decide +kernel
theorem dX7_loot_24 : decode cX7_loot 24 = .ok (.invokestatic 36, 3) := by decide +kernel
theorem dX7_loot_27 : decode cX7_loot 27 = .ok (.ifCond .eq 20, 3) := by decide +kernel
theorem dX7_loot_30 : decode cX7_loot 30 = .ok (.aload_n 0, 1) := by decide +kernel
theorem dX7_loot_31 : decode cX7_loot 31 = .ok (.getfield 7, 3) := by decide +kernel
theorem dX7_loot_34 : decode cX7_loot 34 = .ok (.sipush 295, 3) := by decide +kernel
theorem dX7_loot_37 : decode cX7_loot 37 = .ok (.iconst 3, 1) := by decide +kernel
theorem dX7_loot_38 : decode cX7_loot 38 = .ok (.iload_n 1, 1) := by decide +kernel
theorem dX7_loot_39 : decode cX7_loot 39 = .ok (.imul, 1) := by decide +kernel
theorem dX7_loot_40 : decode cX7_loot 40 = .ok (.iadd, 1) := by decide +kernel
theorem dX7_loot_41 : decode cX7_loot 41 = .ok (.iload_n 2, 1) := by decide +kernel
theorem dX7_loot_42 : decode cX7_loot 42 = .ok (.iadd, 1) := by decide +kernel
theorem dX7_loot_43 : decode cX7_loot 43 = .ok (.iaload, 1) := by decide +kernel
theorem dX7_loot_44 : decode cX7_loot 44 = .ok (.goto 5, 3) := by decide +kernel
theorem dX7_loot_47 : decode cX7_loot 47 = .ok (.bipush (-6), 2) := by decide +kernel
theorem dX7_loot_49 : decode cX7_loot 49 = .ok (.ireturn, 1) := by decide +kernel
theorem dX7_lootOf_0 : decode cX7_lootOf 0 = .ok (.aload_n 0, 1) := by decide +kernel
theorem dX7_lootOf_1 : decode cX7_lootOf 1 = .ok (.getfield 7, 3) := by decide +kernel
theorem dX7_lootOf_4 : decode cX7_lootOf 4 = .ok (.sipush 295, 3) := by decide +kernel
theorem dX7_lootOf_7 : decode cX7_lootOf 7 = .ok (.iconst 3, 1) := by decide +kernel
theorem dX7_lootOf_8 : decode cX7_lootOf 8 = .ok (.iload_n 1, 1) := by decide +kernel
theorem dX7_lootOf_9 : decode cX7_lootOf 9 = .ok (.imul, 1) := by decide +kernel
theorem dX7_lootOf_10 : decode cX7_lootOf 10 = .ok (.iadd, 1) := by decide +kernel
theorem dX7_lootOf_11 : decode cX7_lootOf 11 = .ok (.iload_n 2, 1) := by decide +kernel
theorem dX7_lootOf_12 : decode cX7_lootOf 12 = .ok (.iadd, 1) := by decide +kernel
theorem dX7_lootOf_13 : decode cX7_lootOf 13 = .ok (.iaload, 1) := by decide +kernel
theorem dX7_lootOf_14 : decode cX7_lootOf 14 = .ok (.ireturn, 1) := by decide +kernel
set_option maxRecDepth 20000 in
theorem ggX7_isWorld_X7_lootOf : GoodIn wsX7_isWorld wsX7_lootOf := goodIn_r _ [6, 1, 16, 17, 18, 19, 20, 21, 22, 23, 24] (by decide +kernel) (by decide +kernel)
set_option maxRecDepth 20000 in
theorem gX7_isWorld_X7_lootOf : GoodIn wsX7_isWorld (wsV RX7 165 RX7 yX7_lootOf wsX7_lootOf) := goodIn_app (goodIn_of _ (by decide +kernel)) ggX7_isWorld_X7_lootOf
set_option maxRecDepth 20000 in
theorem ggX7_isWorld_X7_polyAt : GoodIn wsX7_isWorld wsX7_polyAt := goodIn_r _ [10, 11, 12, 13, 14, 5, 15, 16, 17, 18, 19, 20, 21, 22, 23, 24] (by decide +kernel) (by decide +kernel)
set_option maxRecDepth 20000 in
theorem gX7_isWorld_X7_polyAt : GoodIn wsX7_isWorld (wsV RX7 100 RX7 yX7_polyAt wsX7_polyAt) := goodIn_app (goodIn_of _ (by decide +kernel)) ggX7_isWorld_X7_polyAt
theorem dX7_isWorld_0 : decode cX7_isWorld 0 = .ok (.iconst 0, 1) := by decide +kernel
theorem dX7_isWorld_1 : decode cX7_isWorld 1 = .ok (.istore_n 2, 1) := by decide +kernel
theorem dX7_isWorld_2 : decode cX7_isWorld 2 = .ok (.iload_n 2, 1) := by decide +kernel
theorem dX7_isWorld_3 : decode cX7_isWorld 3 = .ok (.aload_n 0, 1) := by decide +kernel
theorem dX7_isWorld_4 : decode cX7_isWorld 4 = .ok (.getfield 7, 3) := by decide +kernel
theorem dX7_isWorld_7 : decode cX7_isWorld 7 = .ok (.sipush 367, 3) := by decide +kernel
theorem dX7_isWorld_10 : decode cX7_isWorld 10 = .ok (.iaload, 1) := by decide +kernel
theorem dX7_isWorld_11 : decode cX7_isWorld 11 = .ok (.if_icmp .ge 40, 3) := by decide +kernel
theorem dX7_isWorld_14 : decode cX7_isWorld 14 = .ok (.aload_n 0, 1) := by decide +kernel
theorem dX7_isWorld_15 : decode cX7_isWorld 15 = .ok (.iload_n 2, 1) := by decide +kernel
theorem dX7_isWorld_16 : decode cX7_isWorld 16 = .ok (.iconst 1, 1) := by decide +kernel
theorem dX7_isWorld_17 : decode cX7_isWorld 17 = .ok (.invokevirtual 165, 3) := by decide +kernel
theorem dX7_isWorld_20 : decode cX7_isWorld 20 = .ok (.iload_n 1, 1) := by decide +kernel
theorem dX7_isWorld_21 : decode cX7_isWorld 21 = .ok (.if_icmp .ne 24, 3) := by decide +kernel
theorem dX7_isWorld_24 : decode cX7_isWorld 24 = .ok (.aload_n 0, 1) := by decide +kernel
theorem dX7_isWorld_25 : decode cX7_isWorld 25 = .ok (.aload_n 0, 1) := by decide +kernel
theorem dX7_isWorld_26 : decode cX7_isWorld 26 = .ok (.iload_n 2, 1) := by decide +kernel
theorem dX7_isWorld_27 : decode cX7_isWorld 27 = .ok (.iconst 0, 1) := by decide +kernel
theorem dX7_isWorld_28 : decode cX7_isWorld 28 = .ok (.invokevirtual 165, 3) := by decide +kernel
theorem dX7_isWorld_31 : decode cX7_isWorld 31 = .ok (.invokevirtual 100, 3) := by decide +kernel
theorem dX7_isWorld_34 : decode cX7_isWorld 34 = .ok (.aload_n 0, 1) := by decide +kernel
theorem dX7_isWorld_35 : decode cX7_isWorld 35 = .ok (.iload_n 2, 1) := by decide +kernel
theorem dX7_isWorld_36 : decode cX7_isWorld 36 = .ok (.iconst 2, 1) := by decide +kernel
theorem dX7_isWorld_37 : decode cX7_isWorld 37 = .ok (.invokevirtual 165, 3) := by decide +kernel
theorem dX7_isWorld_40 : decode cX7_isWorld 40 = .ok (.if_icmp .eq 5, 3) := by decide +kernel
theorem dX7_isWorld_43 : decode cX7_isWorld 43 = .ok (.iconst 0, 1) := by decide +kernel
theorem dX7_isWorld_44 : decode cX7_isWorld 44 = .ok (.ireturn, 1) := by decide +kernel
theorem dX7_isWorld_45 : decode cX7_isWorld 45 = .ok (.iinc 2 1, 3) := by decide +kernel
theorem dX7_isWorld_48 : decode cX7_isWorld 48 = .ok (.goto (-46), 3) := by decide +kernel
theorem dX7_isWorld_51 : decode cX7_isWorld 51 = .ok (.iconst 1, 1) := by decide +kernel
theorem dX7_isWorld_52 : decode cX7_isWorld 52 = .ok (.ireturn, 1) := by decide +kernel
set_option maxRecDepth 20000 in
theorem ggX7_isEpoch_X7_in : GoodIn wsX7_isEpoch wsX7_in := goodIn_r _ [5] (by decide +kernel) (by decide +kernel)
set_option maxRecDepth 20000 in
theorem gX7_isEpoch_X7_in : GoodIn wsX7_isEpoch (va_wsS RX7 36 yX7_in wsX7_in) := goodIn_app (goodIn_of _ (by decide +kernel)) ggX7_isEpoch_X7_in
theorem dX7_isEpoch_0 : decode cX7_isEpoch 0 = .ok (.iload_n 1, 1) := by decide +kernel
theorem dX7_isEpoch_1 : decode cX7_isEpoch 1 = .ok (.iconst 0, 1) := by decide +kernel
theorem dX7_isEpoch_2 : decode cX7_isEpoch 2 = .ok (.aload_n 0, 1) := by decide +kernel
theorem dX7_isEpoch_3 : decode cX7_isEpoch 3 = .ok (.getfield 7, 3) := by decide +kernel
theorem dX7_isEpoch_6 : decode cX7_isEpoch 6 = .ok (.bipush 89, 2) := by decide +kernel
theorem dX7_isEpoch_8 : decode cX7_isEpoch 8 = .ok (.iaload, 1) := by decide +kernel
theorem dX7_isEpoch_9 : decode cX7_isEpoch 9 = .ok (.invokestatic 36, 3) := by decide +kernel
theorem dX7_isEpoch_12 : decode cX7_isEpoch 12 = .ok (.ireturn, 1) := by decide +kernel
set_option maxRecDepth 20000 in
theorem ggX7_worlds_X7_isValue : GoodIn wsX7_worlds wsX7_isValue := goodIn_r _ [7, 8, 9, 6, 10] (by decide +kernel) (by decide +kernel)
set_option maxRecDepth 20000 in
theorem gX7_worlds_X7_isValue : GoodIn wsX7_worlds (va_wsS RX7 44 yX7_isValue wsX7_isValue) := goodIn_app (goodIn_of _ (by decide +kernel)) ggX7_worlds_X7_isValue
set_option maxRecDepth 20000 in
theorem ggX7_worlds_X7_isEpoch : GoodIn wsX7_worlds wsX7_isEpoch := goodIn_r _ [14, 1, 8, 9, 6, 10, 30, 31, 32, 33, 34, 35, 36, 37, 38] (by decide +kernel) (by decide +kernel)
set_option maxRecDepth 20000 in
theorem gX7_worlds_X7_isEpoch : GoodIn wsX7_worlds (wsV RX7 168 RX7 yX7_isEpoch wsX7_isEpoch) := goodIn_app (goodIn_of _ (by decide +kernel)) ggX7_worlds_X7_isEpoch
set_option maxRecDepth 20000 in
theorem ggX7_worlds_X7_isWorld : GoodIn wsX7_worlds wsX7_isWorld := goodIn_r _ [18, 1, 19, 20, 21, 6, 22, 23, 24, 25, 26, 2, 3, 27, 28, 29, 30, 31, 32, 33, 34, 35, 36, 37, 38] (by decide +kernel) (by decide +kernel)
set_option maxRecDepth 20000 in
theorem gX7_worlds_X7_isWorld : GoodIn wsX7_worlds (wsV RX7 171 RX7 yX7_isWorld wsX7_isWorld) := goodIn_app (goodIn_of _ (by decide +kernel)) ggX7_worlds_X7_isWorld
theorem dX7_worlds_0 : decode cX7_worlds 0 = .ok (.iload_n 2, 1) := by decide +kernel
theorem dX7_worlds_1 : decode cX7_worlds 1 = .ok (.invokestatic 44, 3) := by decide +kernel
theorem dX7_worlds_4 : decode cX7_worlds 4 = .ok (.ifCond .eq 11, 3) := by decide +kernel
theorem dX7_worlds_7 : decode cX7_worlds 7 = .ok (.aload_n 0, 1) := by decide +kernel
theorem dX7_worlds_8 : decode cX7_worlds 8 = .ok (.iload_n 1, 1) := by decide +kernel
theorem dX7_worlds_9 : decode cX7_worlds 9 = .ok (.invokevirtual 168, 3) := by decide +kernel
theorem dX7_worlds_12 : decode cX7_worlds 12 = .ok (.ifCond .ne 6, 3) := by decide +kernel
theorem dX7_worlds_15 : decode cX7_worlds 15 = .ok (.bipush (-2), 2) := by decide +kernel
theorem dX7_worlds_17 : decode cX7_worlds 17 = .ok (.ireturn, 1) := by decide +kernel
theorem dX7_worlds_18 : decode cX7_worlds 18 = .ok (.aload_n 0, 1) := by decide +kernel
theorem dX7_worlds_19 : decode cX7_worlds 19 = .ok (.aload_n 0, 1) := by decide +kernel
theorem dX7_worlds_20 : decode cX7_worlds 20 = .ok (.getfield 7, 3) := by decide +kernel
theorem dX7_worlds_23 : decode cX7_worlds 23 = .ok (.bipush 95, 2) := by decide +kernel
theorem dX7_worlds_25 : decode cX7_worlds 25 = .ok (.iload_n 1, 1) := by decide +kernel
theorem dX7_worlds_26 : decode cX7_worlds 26 = .ok (.iadd, 1) := by decide +kernel
theorem dX7_worlds_27 : decode cX7_worlds 27 = .ok (.iaload, 1) := by decide +kernel
theorem dX7_worlds_28 : decode cX7_worlds 28 = .ok (.putfield 97, 3) := by decide +kernel
theorem dX7_worlds_31 : decode cX7_worlds 31 = .ok (.iconst 1, 1) := by decide +kernel
theorem dX7_worlds_32 : decode cX7_worlds 32 = .ok (.istore_n 3, 1) := by decide +kernel
theorem dX7_worlds_33 : decode cX7_worlds 33 = .ok (.iconst 1, 1) := by decide +kernel
theorem dX7_worlds_34 : decode cX7_worlds 34 = .ok (.istore 4, 2) := by decide +kernel
theorem dX7_worlds_36 : decode cX7_worlds 36 = .ok (.iload 4, 2) := by decide +kernel
theorem dX7_worlds_38 : decode cX7_worlds 38 = .ok (.aload_n 0, 1) := by decide +kernel
theorem dX7_worlds_39 : decode cX7_worlds 39 = .ok (.getfield 97, 3) := by decide +kernel
theorem dX7_worlds_42 : decode cX7_worlds 42 = .ok (.if_icmp .ge 14, 3) := by decide +kernel
theorem dX7_worlds_45 : decode cX7_worlds 45 = .ok (.iload_n 3, 1) := by decide +kernel
theorem dX7_worlds_46 : decode cX7_worlds 46 = .ok (.bipush 23, 2) := by decide +kernel
theorem dX7_worlds_48 : decode cX7_worlds 48 = .ok (.imul, 1) := by decide +kernel
theorem dX7_worlds_49 : decode cX7_worlds 49 = .ok (.istore_n 3, 1) := by decide +kernel
theorem dX7_worlds_50 : decode cX7_worlds 50 = .ok (.iinc 4 1, 3) := by decide +kernel
theorem dX7_worlds_53 : decode cX7_worlds 53 = .ok (.goto (-17), 3) := by decide +kernel
theorem dX7_worlds_56 : decode cX7_worlds 56 = .ok (.iconst 0, 1) := by decide +kernel
theorem dX7_worlds_57 : decode cX7_worlds 57 = .ok (.istore 4, 2) := by decide +kernel
theorem dX7_worlds_59 : decode cX7_worlds 59 = .ok (.iconst 0, 1) := by decide +kernel
theorem dX7_worlds_60 : decode cX7_worlds 60 = .ok (.istore 5, 2) := by decide +kernel
theorem dX7_worlds_62 : decode cX7_worlds 62 = .ok (.iload 5, 2) := by decide +kernel
theorem dX7_worlds_64 : decode cX7_worlds 64 = .ok (.iload_n 3, 1) := by decide +kernel
theorem dX7_worlds_65 : decode cX7_worlds 65 = .ok (.if_icmp .ge 75, 3) := by decide +kernel
theorem dX7_worlds_68 : decode cX7_worlds 68 = .ok (.iload 5, 2) := by decide +kernel
theorem dX7_worlds_70 : decode cX7_worlds 70 = .ok (.istore 6, 2) := by decide +kernel
theorem dX7_worlds_72 : decode cX7_worlds 72 = .ok (.aload_n 0, 1) := by decide +kernel
theorem dX7_worlds_73 : decode cX7_worlds 73 = .ok (.getfield 16, 3) := by decide +kernel
theorem dX7_worlds_76 : decode cX7_worlds 76 = .ok (.iconst 0, 1) := by decide +kernel
theorem dX7_worlds_77 : decode cX7_worlds 77 = .ok (.iload_n 2, 1) := by decide +kernel
theorem dX7_worlds_78 : decode cX7_worlds 78 = .ok (.iastore, 1) := by decide +kernel
theorem dX7_worlds_79 : decode cX7_worlds 79 = .ok (.iconst 1, 1) := by decide +kernel
theorem dX7_worlds_80 : decode cX7_worlds 80 = .ok (.istore 7, 2) := by decide +kernel
theorem dX7_worlds_82 : decode cX7_worlds 82 = .ok (.iload 7, 2) := by decide +kernel
theorem dX7_worlds_84 : decode cX7_worlds 84 = .ok (.aload_n 0, 1) := by decide +kernel
theorem dX7_worlds_85 : decode cX7_worlds 85 = .ok (.getfield 97, 3) := by decide +kernel
theorem dX7_worlds_88 : decode cX7_worlds 88 = .ok (.if_icmp .ge 28, 3) := by decide +kernel
theorem dX7_worlds_91 : decode cX7_worlds 91 = .ok (.aload_n 0, 1) := by decide +kernel
theorem dX7_worlds_92 : decode cX7_worlds 92 = .ok (.getfield 16, 3) := by decide +kernel
theorem dX7_worlds_95 : decode cX7_worlds 95 = .ok (.iload 7, 2) := by decide +kernel
theorem dX7_worlds_97 : decode cX7_worlds 97 = .ok (.iload 6, 2) := by decide +kernel
theorem dX7_worlds_99 : decode cX7_worlds 99 = .ok (.bipush 23, 2) := by decide +kernel
theorem dX7_worlds_101 : decode cX7_worlds 101 = .ok (.irem, 1) := by decide +kernel
theorem dX7_worlds_102 : decode cX7_worlds 102 = .ok (.iastore, 1) := by decide +kernel
theorem dX7_worlds_103 : decode cX7_worlds 103 = .ok (.iload 6, 2) := by decide +kernel
theorem dX7_worlds_105 : decode cX7_worlds 105 = .ok (.bipush 23, 2) := by decide +kernel
theorem dX7_worlds_107 : decode cX7_worlds 107 = .ok (.idiv, 1) := by decide +kernel
theorem dX7_worlds_108 : decode cX7_worlds 108 = .ok (.istore 6, 2) := by decide +kernel
theorem dX7_worlds_110 : decode cX7_worlds 110 = .ok (.iinc 7 1, 3) := by decide +kernel
theorem dX7_worlds_113 : decode cX7_worlds 113 = .ok (.goto (-31), 3) := by decide +kernel
theorem dX7_worlds_116 : decode cX7_worlds 116 = .ok (.iload 4, 2) := by decide +kernel
theorem dX7_worlds_118 : decode cX7_worlds 118 = .ok (.aload_n 0, 1) := by decide +kernel
theorem dX7_worlds_119 : decode cX7_worlds 119 = .ok (.iload_n 1, 1) := by decide +kernel
theorem dX7_worlds_120 : decode cX7_worlds 120 = .ok (.invokevirtual 171, 3) := by decide +kernel
theorem dX7_worlds_123 : decode cX7_worlds 123 = .ok (.ifCond .eq 7, 3) := by decide +kernel
theorem dX7_worlds_126 : decode cX7_worlds 126 = .ok (.iconst 1, 1) := by decide +kernel
theorem dX7_worlds_127 : decode cX7_worlds 127 = .ok (.goto 4, 3) := by decide +kernel
theorem dX7_worlds_130 : decode cX7_worlds 130 = .ok (.iconst 0, 1) := by decide +kernel
theorem dX7_worlds_131 : decode cX7_worlds 131 = .ok (.iadd, 1) := by decide +kernel
theorem dX7_worlds_132 : decode cX7_worlds 132 = .ok (.istore 4, 2) := by decide +kernel
theorem dX7_worlds_134 : decode cX7_worlds 134 = .ok (.iinc 5 1, 3) := by decide +kernel
theorem dX7_worlds_137 : decode cX7_worlds 137 = .ok (.goto (-75), 3) := by decide +kernel
theorem dX7_worlds_140 : decode cX7_worlds 140 = .ok (.iload 4, 2) := by decide +kernel
theorem dX7_worlds_142 : decode cX7_worlds 142 = .ok (.ireturn, 1) := by decide +kernel
set_option maxRecDepth 20000 in
theorem ggX7_lootFrom_X7_lootOf : GoodIn wsX7_lootFrom wsX7_lootOf := goodIn_r _ [6, 1, 7, 8, 9, 10, 11, 12, 13, 14, 15] (by decide +kernel) (by decide +kernel)
set_option maxRecDepth 20000 in
theorem gX7_lootFrom_X7_lootOf : GoodIn wsX7_lootFrom (wsV RX7 165 RX7 yX7_lootOf wsX7_lootOf) := goodIn_app (goodIn_of _ (by decide +kernel)) ggX7_lootFrom_X7_lootOf
theorem dX7_lootFrom_0 : decode cX7_lootFrom 0 = .ok (.iconst 0, 1) := by decide +kernel
theorem dX7_lootFrom_1 : decode cX7_lootFrom 1 = .ok (.istore_n 3, 1) := by decide +kernel
theorem dX7_lootFrom_2 : decode cX7_lootFrom 2 = .ok (.iload_n 3, 1) := by decide +kernel
theorem dX7_lootFrom_3 : decode cX7_lootFrom 3 = .ok (.aload_n 0, 1) := by decide +kernel
theorem dX7_lootFrom_4 : decode cX7_lootFrom 4 = .ok (.getfield 7, 3) := by decide +kernel
theorem dX7_lootFrom_7 : decode cX7_lootFrom 7 = .ok (.sipush 367, 3) := by decide +kernel
theorem dX7_lootFrom_10 : decode cX7_lootFrom 10 = .ok (.iaload, 1) := by decide +kernel
theorem dX7_lootFrom_11 : decode cX7_lootFrom 11 = .ok (.if_icmp .ge 35, 3) := by decide +kernel
theorem dX7_lootFrom_14 : decode cX7_lootFrom 14 = .ok (.aload_n 0, 1) := by decide +kernel
theorem dX7_lootFrom_15 : decode cX7_lootFrom 15 = .ok (.iload_n 3, 1) := by decide +kernel
theorem dX7_lootFrom_16 : decode cX7_lootFrom 16 = .ok (.iconst 0, 1) := by decide +kernel
theorem dX7_lootFrom_17 : decode cX7_lootFrom 17 = .ok (.invokevirtual 165, 3) := by decide +kernel
theorem dX7_lootFrom_20 : decode cX7_lootFrom 20 = .ok (.iload_n 1, 1) := by decide +kernel
theorem dX7_lootFrom_21 : decode cX7_lootFrom 21 = .ok (.if_icmp .ne 19, 3) := by decide +kernel
theorem dX7_lootFrom_24 : decode cX7_lootFrom 24 = .ok (.iload_n 2, 1) := by decide +kernel
theorem dX7_lootFrom_25 : decode cX7_lootFrom 25 = .ok (.ifCond .lt 13, 3) := by decide +kernel
theorem dX7_lootFrom_28 : decode cX7_lootFrom 28 = .ok (.aload_n 0, 1) := by decide +kernel
theorem dX7_lootFrom_29 : decode cX7_lootFrom 29 = .ok (.iload_n 3, 1) := by decide +kernel
theorem dX7_lootFrom_30 : decode cX7_lootFrom 30 = .ok (.iconst 1, 1) := by decide +kernel
theorem dX7_lootFrom_31 : decode cX7_lootFrom 31 = .ok (.invokevirtual 165, 3) := by decide +kernel
theorem dX7_lootFrom_34 : decode cX7_lootFrom 34 = .ok (.iload_n 2, 1) := by decide +kernel
theorem dX7_lootFrom_35 : decode cX7_lootFrom 35 = .ok (.if_icmp .ne 5, 3) := by decide +kernel
theorem dX7_lootFrom_38 : decode cX7_lootFrom 38 = .ok (.iload_n 3, 1) := by decide +kernel
theorem dX7_lootFrom_39 : decode cX7_lootFrom 39 = .ok (.ireturn, 1) := by decide +kernel
theorem dX7_lootFrom_40 : decode cX7_lootFrom 40 = .ok (.iinc 3 1, 3) := by decide +kernel
theorem dX7_lootFrom_43 : decode cX7_lootFrom 43 = .ok (.goto (-41), 3) := by decide +kernel
theorem dX7_lootFrom_46 : decode cX7_lootFrom 46 = .ok (.bipush (-6), 2) := by decide +kernel
theorem dX7_lootFrom_48 : decode cX7_lootFrom 48 = .ok (.ireturn, 1) := by decide +kernel
set_option maxRecDepth 20000 in
theorem ggX7_robbed_X7_lootFrom : GoodIn wsX7_robbed wsX7_lootFrom := goodIn_r _ [5, 6, 7, 8, 9, 4, 10, 11, 12, 13, 14, 15, 16, 17, 18, 19] (by decide +kernel) (by decide +kernel)
set_option maxRecDepth 20000 in
theorem gX7_robbed_X7_lootFrom : GoodIn wsX7_robbed (wsV RX7 174 RX7 yX7_lootFrom wsX7_lootFrom) := goodIn_app (goodIn_of _ (by decide +kernel)) ggX7_robbed_X7_lootFrom
theorem dX7_robbed_0 : decode cX7_robbed 0 = .ok (.iconst 0, 1) := by decide +kernel
theorem dX7_robbed_1 : decode cX7_robbed 1 = .ok (.istore_n 2, 1) := by decide +kernel
theorem dX7_robbed_2 : decode cX7_robbed 2 = .ok (.iconst 1, 1) := by decide +kernel
theorem dX7_robbed_3 : decode cX7_robbed 3 = .ok (.istore_n 3, 1) := by decide +kernel
theorem dX7_robbed_4 : decode cX7_robbed 4 = .ok (.iload_n 3, 1) := by decide +kernel
theorem dX7_robbed_5 : decode cX7_robbed 5 = .ok (.bipush 7, 2) := by decide +kernel
theorem dX7_robbed_7 : decode cX7_robbed 7 = .ok (.if_icmp .gt 28, 3) := by decide +kernel
theorem dX7_robbed_10 : decode cX7_robbed 10 = .ok (.iload_n 2, 1) := by decide +kernel
theorem dX7_robbed_11 : decode cX7_robbed 11 = .ok (.aload_n 0, 1) := by decide +kernel
theorem dX7_robbed_12 : decode cX7_robbed 12 = .ok (.iload_n 3, 1) := by decide +kernel
theorem dX7_robbed_13 : decode cX7_robbed 13 = .ok (.iload_n 1, 1) := by decide +kernel
theorem dX7_robbed_14 : decode cX7_robbed 14 = .ok (.invokevirtual 174, 3) := by decide +kernel
theorem dX7_robbed_17 : decode cX7_robbed 17 = .ok (.ifCond .lt 9, 3) := by decide +kernel
theorem dX7_robbed_20 : decode cX7_robbed 20 = .ok (.iconst 1, 1) := by decide +kernel
theorem dX7_robbed_21 : decode cX7_robbed 21 = .ok (.iload_n 3, 1) := by decide +kernel
theorem dX7_robbed_22 : decode cX7_robbed 22 = .ok (.ishl, 1) := by decide +kernel
theorem dX7_robbed_23 : decode cX7_robbed 23 = .ok (.goto 4, 3) := by decide +kernel
theorem dX7_robbed_26 : decode cX7_robbed 26 = .ok (.iconst 0, 1) := by decide +kernel
theorem dX7_robbed_27 : decode cX7_robbed 27 = .ok (.ior, 1) := by decide +kernel
theorem dX7_robbed_28 : decode cX7_robbed 28 = .ok (.istore_n 2, 1) := by decide +kernel
theorem dX7_robbed_29 : decode cX7_robbed 29 = .ok (.iinc 3 1, 3) := by decide +kernel
theorem dX7_robbed_32 : decode cX7_robbed 32 = .ok (.goto (-28), 3) := by decide +kernel
theorem dX7_robbed_35 : decode cX7_robbed 35 = .ok (.iload_n 2, 1) := by decide +kernel
theorem dX7_robbed_36 : decode cX7_robbed 36 = .ok (.ireturn, 1) := by decide +kernel
set_option maxRecDepth 20000 in
theorem ggX7_opened_X7_has : GoodIn wsX7_opened wsX7_has := goodIn_r _ [4] (by decide +kernel) (by decide +kernel)
set_option maxRecDepth 20000 in
theorem gX7_opened_X7_has : GoodIn wsX7_opened (va_wsS RX7 88 yX7_has wsX7_has) := goodIn_app (goodIn_of _ (by decide +kernel)) ggX7_opened_X7_has
set_option maxRecDepth 20000 in
theorem ggX7_opened_X7_lootFrom : GoodIn wsX7_opened wsX7_lootFrom := goodIn_r _ [8, 9, 10, 11, 12, 3, 13, 26, 27, 28, 29, 30, 31, 32, 33, 34] (by decide +kernel) (by decide +kernel)
set_option maxRecDepth 20000 in
theorem gX7_opened_X7_lootFrom : GoodIn wsX7_opened (wsV RX7 174 RX7 yX7_lootFrom wsX7_lootFrom) := goodIn_app (goodIn_of _ (by decide +kernel)) ggX7_opened_X7_lootFrom
set_option maxRecDepth 20000 in
theorem ggX7_opened_X7_lootOf : GoodIn wsX7_opened wsX7_lootOf := goodIn_r _ [13, 9, 26, 27, 28, 29, 30, 31, 32, 33, 34] (by decide +kernel) (by decide +kernel)
set_option maxRecDepth 20000 in
theorem gX7_opened_X7_lootOf : GoodIn wsX7_opened (wsV RX7 165 RX7 yX7_lootOf wsX7_lootOf) := goodIn_app (goodIn_of _ (by decide +kernel)) ggX7_opened_X7_lootOf
set_option maxRecDepth 20000 in
theorem ggX7_opened_X7_weight : GoodIn wsX7_opened wsX7_weight := goodIn_r _ [16, 1, 2, 3, 4, 17, 18, 19, 20, 21, 22, 23, 24, 25] (by decide +kernel) (by decide +kernel)
set_option maxRecDepth 20000 in
theorem gX7_opened_X7_weight : GoodIn wsX7_opened (va_wsS RX7 94 yX7_weight wsX7_weight) := goodIn_app (goodIn_of _ (by decide +kernel)) ggX7_opened_X7_weight
theorem dX7_opened_0 : decode cX7_opened 0 = .ok (.iconst 0, 1) := by decide +kernel
theorem dX7_opened_1 : decode cX7_opened 1 = .ok (.istore_n 3, 1) := by decide +kernel
theorem dX7_opened_2 : decode cX7_opened 2 = .ok (.iconst 1, 1) := by decide +kernel
theorem dX7_opened_3 : decode cX7_opened 3 = .ok (.istore 4, 2) := by decide +kernel
theorem dX7_opened_5 : decode cX7_opened 5 = .ok (.iload 4, 2) := by decide +kernel
theorem dX7_opened_7 : decode cX7_opened 7 = .ok (.bipush 7, 2) := by decide +kernel
theorem dX7_opened_9 : decode cX7_opened 9 = .ok (.if_icmp .gt 45, 3) := by decide +kernel
theorem dX7_opened_12 : decode cX7_opened 12 = .ok (.iload_n 3, 1) := by decide +kernel
theorem dX7_opened_13 : decode cX7_opened 13 = .ok (.iload_n 1, 1) := by decide +kernel
theorem dX7_opened_14 : decode cX7_opened 14 = .ok (.iload 4, 2) := by decide +kernel
theorem dX7_opened_16 : decode cX7_opened 16 = .ok (.invokestatic 88, 3) := by decide +kernel
theorem dX7_opened_19 : decode cX7_opened 19 = .ok (.ifCond .eq 26, 3) := by decide +kernel
theorem dX7_opened_22 : decode cX7_opened 22 = .ok (.aload_n 0, 1) := by decide +kernel
theorem dX7_opened_23 : decode cX7_opened 23 = .ok (.aload_n 0, 1) := by decide +kernel
theorem dX7_opened_24 : decode cX7_opened 24 = .ok (.iload 4, 2) := by decide +kernel
theorem dX7_opened_26 : decode cX7_opened 26 = .ok (.iload_n 2, 1) := by decide +kernel
theorem dX7_opened_27 : decode cX7_opened 27 = .ok (.invokevirtual 174, 3) := by decide +kernel
theorem dX7_opened_30 : decode cX7_opened 30 = .ok (.iconst 2, 1) := by decide +kernel
theorem dX7_opened_31 : decode cX7_opened 31 = .ok (.invokevirtual 165, 3) := by decide +kernel
theorem dX7_opened_34 : decode cX7_opened 34 = .ok (.iload 4, 2) := by decide +kernel
theorem dX7_opened_36 : decode cX7_opened 36 = .ok (.iload_n 1, 1) := by decide +kernel
theorem dX7_opened_37 : decode cX7_opened 37 = .ok (.iconst 0, 1) := by decide +kernel
theorem dX7_opened_38 : decode cX7_opened 38 = .ok (.invokestatic 94, 3) := by decide +kernel
theorem dX7_opened_41 : decode cX7_opened 41 = .ok (.imul, 1) := by decide +kernel
theorem dX7_opened_42 : decode cX7_opened 42 = .ok (.goto 4, 3) := by decide +kernel
theorem dX7_opened_45 : decode cX7_opened 45 = .ok (.iconst 0, 1) := by decide +kernel
theorem dX7_opened_46 : decode cX7_opened 46 = .ok (.iadd, 1) := by decide +kernel
theorem dX7_opened_47 : decode cX7_opened 47 = .ok (.istore_n 3, 1) := by decide +kernel
theorem dX7_opened_48 : decode cX7_opened 48 = .ok (.iinc 4 1, 3) := by decide +kernel
theorem dX7_opened_51 : decode cX7_opened 51 = .ok (.goto (-46), 3) := by decide +kernel
theorem dX7_opened_54 : decode cX7_opened 54 = .ok (.iload_n 3, 1) := by decide +kernel
theorem dX7_opened_55 : decode cX7_opened 55 = .ok (.bipush 23, 2) := by decide +kernel
theorem dX7_opened_57 : decode cX7_opened 57 = .ok (.irem, 1) := by decide +kernel
theorem dX7_opened_58 : decode cX7_opened 58 = .ok (.ireturn, 1) := by decide +kernel
set_option maxRecDepth 20000 in
theorem ggX7_thief_X7_in : GoodIn wsX7_thief wsX7_in := goodIn_r _ [5] (by decide +kernel) (by decide +kernel)
set_option maxRecDepth 20000 in
theorem gX7_thief_X7_in : GoodIn wsX7_thief (va_wsS RX7 36 yX7_in wsX7_in) := goodIn_app (goodIn_of _ (by decide +kernel)) ggX7_thief_X7_in
set_option maxRecDepth 20000 in
theorem ggX7_thief_X7_isDealt : GoodIn wsX7_thief wsX7_isDealt := goodIn_r _ [9, 1, 47, 48, 49, 50, 51, 52, 53, 54, 55] (by decide +kernel) (by decide +kernel)
set_option maxRecDepth 20000 in
theorem gX7_thief_X7_isDealt : GoodIn wsX7_thief (wsV RX7 110 RX7 yX7_isDealt wsX7_isDealt) := goodIn_app (goodIn_of _ (by decide +kernel)) ggX7_thief_X7_isDealt
set_option maxRecDepth 20000 in
theorem ggX7_thief_X7_robbed : GoodIn wsX7_thief wsX7_robbed := goodIn_r _ [13, 14, 15, 16, 4, 17, 1, 18, 19, 20, 21, 47, 48, 49, 50, 51, 52, 53, 54, 55] (by decide +kernel) (by decide +kernel)
set_option maxRecDepth 20000 in
theorem gX7_thief_X7_robbed : GoodIn wsX7_thief (wsV RX7 177 RX7 yX7_robbed wsX7_robbed) := goodIn_app (goodIn_of _ (by decide +kernel)) ggX7_thief_X7_robbed
set_option maxRecDepth 20000 in
theorem ggX7_thief_X7_bits : GoodIn wsX7_thief wsX7_bits := goodIn_r _ [24] (by decide +kernel) (by decide +kernel)
set_option maxRecDepth 20000 in
theorem gX7_thief_X7_bits : GoodIn wsX7_thief (va_wsS RX7 120 yX7_bits wsX7_bits) := goodIn_app (goodIn_of _ (by decide +kernel)) ggX7_thief_X7_bits
set_option maxRecDepth 20000 in
theorem ggX7_thief_X7_firstOf : GoodIn wsX7_thief wsX7_firstOf := goodIn_r _ [27, 28, 29, 4, 30, 22, 23, 24] (by decide +kernel) (by decide +kernel)
set_option maxRecDepth 20000 in
theorem gX7_thief_X7_firstOf : GoodIn wsX7_thief (va_wsS RX7 126 yX7_firstOf wsX7_firstOf) := goodIn_app (goodIn_of _ (by decide +kernel)) ggX7_thief_X7_firstOf
set_option maxRecDepth 20000 in
theorem ggX7_thief_X7_opened : GoodIn wsX7_thief wsX7_opened := goodIn_r _ [34, 28, 29, 4, 30, 14, 15, 16, 17, 1, 18, 19, 20, 21, 35, 36, 37, 38, 39, 40, 41, 42, 43, 44, 45, 46, 47, 48, 49, 50, 51, 52, 53, 54, 55] (by decide +kernel) (by decide +kernel)
set_option maxRecDepth 20000 in
theorem gX7_thief_X7_opened : GoodIn wsX7_thief (wsV RX7 180 RX7 yX7_opened wsX7_opened) := goodIn_app (goodIn_of _ (by decide +kernel)) ggX7_thief_X7_opened
theorem dX7_thief_0 : decode cX7_thief 0 = .ok (.iload_n 1, 1) := by decide +kernel
theorem dX7_thief_1 : decode cX7_thief 1 = .ok (.iconst 0, 1) := by decide +kernel
theorem dX7_thief_2 : decode cX7_thief 2 = .ok (.iconst 2, 1) := by decide +kernel
theorem dX7_thief_3 : decode cX7_thief 3 = .ok (.invokestatic 36, 3) := by decide +kernel
theorem dX7_thief_6 : decode cX7_thief 6 = .ok (.ifCond .ne 6, 3) := by decide +kernel
theorem dX7_thief_9 : decode cX7_thief 9 = .ok (.bipush (-2), 2) := by decide +kernel
theorem dX7_thief_11 : decode cX7_thief 11 = .ok (.ireturn, 1) := by decide +kernel
theorem dX7_thief_12 : decode cX7_thief 12 = .ok (.aload_n 0, 1) := by decide +kernel
theorem dX7_thief_13 : decode cX7_thief 13 = .ok (.invokevirtual 110, 3) := by decide +kernel
theorem dX7_thief_16 : decode cX7_thief 16 = .ok (.ifCond .ne 6, 3) := by decide +kernel
theorem dX7_thief_19 : decode cX7_thief 19 = .ok (.bipush (-3), 2) := by decide +kernel
theorem dX7_thief_21 : decode cX7_thief 21 = .ok (.ireturn, 1) := by decide +kernel
theorem dX7_thief_22 : decode cX7_thief 22 = .ok (.iload_n 1, 1) := by decide +kernel
theorem dX7_thief_23 : decode cX7_thief 23 = .ok (.iconst 2, 1) := by decide +kernel
theorem dX7_thief_24 : decode cX7_thief 24 = .ok (.if_icmp .ne 47, 3) := by decide +kernel
theorem dX7_thief_27 : decode cX7_thief 27 = .ok (.aload_n 0, 1) := by decide +kernel
theorem dX7_thief_28 : decode cX7_thief 28 = .ok (.bipush (-6), 2) := by decide +kernel
theorem dX7_thief_30 : decode cX7_thief 30 = .ok (.invokevirtual 177, 3) := by decide +kernel
theorem dX7_thief_33 : decode cX7_thief 33 = .ok (.istore_n 2, 1) := by decide +kernel
theorem dX7_thief_34 : decode cX7_thief 34 = .ok (.iload_n 2, 1) := by decide +kernel
theorem dX7_thief_35 : decode cX7_thief 35 = .ok (.invokestatic 120, 3) := by decide +kernel
theorem dX7_thief_38 : decode cX7_thief 38 = .ok (.aload_n 0, 1) := by decide +kernel
theorem dX7_thief_39 : decode cX7_thief 39 = .ok (.getfield 7, 3) := by decide +kernel
theorem dX7_thief_42 : decode cX7_thief 42 = .ok (.bipush 88, 2) := by decide +kernel
theorem dX7_thief_44 : decode cX7_thief 44 = .ok (.iaload, 1) := by decide +kernel
theorem dX7_thief_45 : decode cX7_thief 45 = .ok (.if_icmp .ge 8, 3) := by decide +kernel
theorem dX7_thief_48 : decode cX7_thief 48 = .ok (.bipush (-6), 2) := by decide +kernel
theorem dX7_thief_50 : decode cX7_thief 50 = .ok (.goto 20, 3) := by decide +kernel
theorem dX7_thief_53 : decode cX7_thief 53 = .ok (.aload_n 0, 1) := by decide +kernel
theorem dX7_thief_54 : decode cX7_thief 54 = .ok (.iload_n 2, 1) := by decide +kernel
theorem dX7_thief_55 : decode cX7_thief 55 = .ok (.aload_n 0, 1) := by decide +kernel
theorem dX7_thief_56 : decode cX7_thief 56 = .ok (.getfield 7, 3) := by decide +kernel
theorem dX7_thief_59 : decode cX7_thief 59 = .ok (.bipush 88, 2) := by decide +kernel
theorem dX7_thief_61 : decode cX7_thief 61 = .ok (.iaload, 1) := by decide +kernel
theorem dX7_thief_62 : decode cX7_thief 62 = .ok (.invokestatic 126, 3) := by decide +kernel
theorem dX7_thief_65 : decode cX7_thief 65 = .ok (.bipush (-6), 2) := by decide +kernel
theorem dX7_thief_67 : decode cX7_thief 67 = .ok (.invokevirtual 180, 3) := by decide +kernel
theorem dX7_thief_70 : decode cX7_thief 70 = .ok (.ireturn, 1) := by decide +kernel
theorem dX7_thief_71 : decode cX7_thief 71 = .ok (.iconst 0, 1) := by decide +kernel
theorem dX7_thief_72 : decode cX7_thief 72 = .ok (.istore_n 2, 1) := by decide +kernel
theorem dX7_thief_73 : decode cX7_thief 73 = .ok (.iload_n 2, 1) := by decide +kernel
theorem dX7_thief_74 : decode cX7_thief 74 = .ok (.aload_n 0, 1) := by decide +kernel
theorem dX7_thief_75 : decode cX7_thief 75 = .ok (.getfield 7, 3) := by decide +kernel
theorem dX7_thief_78 : decode cX7_thief 78 = .ok (.bipush 89, 2) := by decide +kernel
theorem dX7_thief_80 : decode cX7_thief 80 = .ok (.iaload, 1) := by decide +kernel
theorem dX7_thief_81 : decode cX7_thief 81 = .ok (.if_icmp .gt 58, 3) := by decide +kernel
theorem dX7_thief_84 : decode cX7_thief 84 = .ok (.aload_n 0, 1) := by decide +kernel
theorem dX7_thief_85 : decode cX7_thief 85 = .ok (.iload_n 2, 1) := by decide +kernel
theorem dX7_thief_86 : decode cX7_thief 86 = .ok (.invokevirtual 177, 3) := by decide +kernel
theorem dX7_thief_89 : decode cX7_thief 89 = .ok (.istore_n 3, 1) := by decide +kernel
theorem dX7_thief_90 : decode cX7_thief 90 = .ok (.iload_n 3, 1) := by decide +kernel
theorem dX7_thief_91 : decode cX7_thief 91 = .ok (.invokestatic 120, 3) := by decide +kernel
theorem dX7_thief_94 : decode cX7_thief 94 = .ok (.aload_n 0, 1) := by decide +kernel
theorem dX7_thief_95 : decode cX7_thief 95 = .ok (.getfield 7, 3) := by decide +kernel
theorem dX7_thief_98 : decode cX7_thief 98 = .ok (.bipush 95, 2) := by decide +kernel
theorem dX7_thief_100 : decode cX7_thief 100 = .ok (.iload_n 2, 1) := by decide +kernel
theorem dX7_thief_101 : decode cX7_thief 101 = .ok (.iadd, 1) := by decide +kernel
theorem dX7_thief_102 : decode cX7_thief 102 = .ok (.iaload, 1) := by decide +kernel
theorem dX7_thief_103 : decode cX7_thief 103 = .ok (.if_icmp .lt 30, 3) := by decide +kernel
theorem dX7_thief_106 : decode cX7_thief 106 = .ok (.iload_n 1, 1) := by decide +kernel
theorem dX7_thief_107 : decode cX7_thief 107 = .ok (.ifCond .ne 7, 3) := by decide +kernel
theorem dX7_thief_110 : decode cX7_thief 110 = .ok (.iload_n 2, 1) := by decide +kernel
theorem dX7_thief_111 : decode cX7_thief 111 = .ok (.goto 21, 3) := by decide +kernel
theorem dX7_thief_114 : decode cX7_thief 114 = .ok (.aload_n 0, 1) := by decide +kernel
theorem dX7_thief_115 : decode cX7_thief 115 = .ok (.iload_n 3, 1) := by decide +kernel
theorem dX7_thief_116 : decode cX7_thief 116 = .ok (.aload_n 0, 1) := by decide +kernel
theorem dX7_thief_117 : decode cX7_thief 117 = .ok (.getfield 7, 3) := by decide +kernel
theorem dX7_thief_120 : decode cX7_thief 120 = .ok (.bipush 95, 2) := by decide +kernel
theorem dX7_thief_122 : decode cX7_thief 122 = .ok (.iload_n 2, 1) := by decide +kernel
theorem dX7_thief_123 : decode cX7_thief 123 = .ok (.iadd, 1) := by decide +kernel
theorem dX7_thief_124 : decode cX7_thief 124 = .ok (.iaload, 1) := by decide +kernel
theorem dX7_thief_125 : decode cX7_thief 125 = .ok (.invokestatic 126, 3) := by decide +kernel
theorem dX7_thief_128 : decode cX7_thief 128 = .ok (.iload_n 2, 1) := by decide +kernel
theorem dX7_thief_129 : decode cX7_thief 129 = .ok (.invokevirtual 180, 3) := by decide +kernel
theorem dX7_thief_132 : decode cX7_thief 132 = .ok (.ireturn, 1) := by decide +kernel
theorem dX7_thief_133 : decode cX7_thief 133 = .ok (.iinc 2 1, 3) := by decide +kernel
theorem dX7_thief_136 : decode cX7_thief 136 = .ok (.goto (-63), 3) := by decide +kernel
theorem dX7_thief_139 : decode cX7_thief 139 = .ok (.bipush (-6), 2) := by decide +kernel
theorem dX7_thief_141 : decode cX7_thief 141 = .ok (.ireturn, 1) := by decide +kernel
set_option maxRecDepth 20000 in
theorem ggX7_image_X7_in : GoodIn wsX7_image wsX7_in := goodIn_r _ [7] (by decide +kernel) (by decide +kernel)
set_option maxRecDepth 20000 in
theorem gX7_image_X7_in : GoodIn wsX7_image (va_wsS RX7 36 yX7_in wsX7_in) := goodIn_app (goodIn_of _ (by decide +kernel)) ggX7_image_X7_in
theorem dX7_image_0 : decode cX7_image 0 = .ok (.iload_n 1, 1) := by decide +kernel
theorem dX7_image_1 : decode cX7_image 1 = .ok (.iconst 0, 1) := by decide +kernel
theorem dX7_image_2 : decode cX7_image 2 = .ok (.iconst 1, 1) := by decide +kernel
theorem dX7_image_3 : decode cX7_image 3 = .ok (.invokestatic 36, 3) := by decide +kernel
theorem dX7_image_6 : decode cX7_image 6 = .ok (.ifCond .ne 6, 3) := by decide +kernel
theorem dX7_image_9 : decode cX7_image 9 = .ok (.bipush (-2), 2) := by decide +kernel
theorem dX7_image_11 : decode cX7_image 11 = .ok (.ireturn, 1) := by decide +kernel
theorem dX7_image_12 : decode cX7_image 12 = .ok (.iconst 0, 1) := by decide +kernel
theorem dX7_image_13 : decode cX7_image 13 = .ok (.istore_n 2, 1) := by decide +kernel
theorem dX7_image_14 : decode cX7_image 14 = .ok (.iload_n 2, 1) := by decide +kernel
theorem dX7_image_15 : decode cX7_image 15 = .ok (.sipush 371, 3) := by decide +kernel
theorem dX7_image_18 : decode cX7_image 18 = .ok (.if_icmp .ge 27, 3) := by decide +kernel
theorem dX7_image_21 : decode cX7_image 21 = .ok (.aload_n 0, 1) := by decide +kernel
theorem dX7_image_22 : decode cX7_image 22 = .ok (.getfield 25, 3) := by decide +kernel
theorem dX7_image_25 : decode cX7_image 25 = .ok (.sipush 371, 3) := by decide +kernel
theorem dX7_image_28 : decode cX7_image 28 = .ok (.iload_n 1, 1) := by decide +kernel
theorem dX7_image_29 : decode cX7_image 29 = .ok (.imul, 1) := by decide +kernel
theorem dX7_image_30 : decode cX7_image 30 = .ok (.iload_n 2, 1) := by decide +kernel
theorem dX7_image_31 : decode cX7_image 31 = .ok (.iadd, 1) := by decide +kernel
theorem dX7_image_32 : decode cX7_image 32 = .ok (.aload_n 0, 1) := by decide +kernel
theorem dX7_image_33 : decode cX7_image 33 = .ok (.getfield 7, 3) := by decide +kernel
theorem dX7_image_36 : decode cX7_image 36 = .ok (.iload_n 2, 1) := by decide +kernel
theorem dX7_image_37 : decode cX7_image 37 = .ok (.iaload, 1) := by decide +kernel
theorem dX7_image_38 : decode cX7_image 38 = .ok (.iastore, 1) := by decide +kernel
theorem dX7_image_39 : decode cX7_image 39 = .ok (.iinc 2 1, 3) := by decide +kernel
theorem dX7_image_42 : decode cX7_image 42 = .ok (.goto (-28), 3) := by decide +kernel
theorem dX7_image_45 : decode cX7_image 45 = .ok (.aload_n 0, 1) := by decide +kernel
theorem dX7_image_46 : decode cX7_image 46 = .ok (.getfield 28, 3) := by decide +kernel
theorem dX7_image_49 : decode cX7_image 49 = .ok (.iload_n 1, 1) := by decide +kernel
theorem dX7_image_50 : decode cX7_image 50 = .ok (.iconst 1, 1) := by decide +kernel
theorem dX7_image_51 : decode cX7_image 51 = .ok (.bastore, 1) := by decide +kernel
theorem dX7_image_52 : decode cX7_image 52 = .ok (.iconst 1, 1) := by decide +kernel
theorem dX7_image_53 : decode cX7_image 53 = .ok (.ireturn, 1) := by decide +kernel
set_option maxRecDepth 20000 in
theorem ggX7_restore_X7_in : GoodIn wsX7_restore wsX7_in := goodIn_r _ [7] (by decide +kernel) (by decide +kernel)
set_option maxRecDepth 20000 in
theorem gX7_restore_X7_in : GoodIn wsX7_restore (va_wsS RX7 36 yX7_in wsX7_in) := goodIn_app (goodIn_of _ (by decide +kernel)) ggX7_restore_X7_in
theorem dX7_restore_0 : decode cX7_restore 0 = .ok (.iload_n 1, 1) := by decide +kernel
theorem dX7_restore_1 : decode cX7_restore 1 = .ok (.iconst 0, 1) := by decide +kernel
theorem dX7_restore_2 : decode cX7_restore 2 = .ok (.iconst 1, 1) := by decide +kernel
theorem dX7_restore_3 : decode cX7_restore 3 = .ok (.invokestatic 36, 3) := by decide +kernel
theorem dX7_restore_6 : decode cX7_restore 6 = .ok (.ifCond .ne 6, 3) := by decide +kernel
theorem dX7_restore_9 : decode cX7_restore 9 = .ok (.bipush (-2), 2) := by decide +kernel
theorem dX7_restore_11 : decode cX7_restore 11 = .ok (.ireturn, 1) := by decide +kernel
theorem dX7_restore_12 : decode cX7_restore 12 = .ok (.aload_n 0, 1) := by decide +kernel
theorem dX7_restore_13 : decode cX7_restore 13 = .ok (.getfield 28, 3) := by decide +kernel
theorem dX7_restore_16 : decode cX7_restore 16 = .ok (.iload_n 1, 1) := by decide +kernel
theorem dX7_restore_17 : decode cX7_restore 17 = .ok (.baload, 1) := by decide +kernel
theorem dX7_restore_18 : decode cX7_restore 18 = .ok (.ifCond .ne 6, 3) := by decide +kernel
theorem dX7_restore_21 : decode cX7_restore 21 = .ok (.bipush (-5), 2) := by decide +kernel
theorem dX7_restore_23 : decode cX7_restore 23 = .ok (.ireturn, 1) := by decide +kernel
theorem dX7_restore_24 : decode cX7_restore 24 = .ok (.iconst 0, 1) := by decide +kernel
theorem dX7_restore_25 : decode cX7_restore 25 = .ok (.istore_n 2, 1) := by decide +kernel
theorem dX7_restore_26 : decode cX7_restore 26 = .ok (.iload_n 2, 1) := by decide +kernel
theorem dX7_restore_27 : decode cX7_restore 27 = .ok (.sipush 371, 3) := by decide +kernel
theorem dX7_restore_30 : decode cX7_restore 30 = .ok (.if_icmp .ge 27, 3) := by decide +kernel
theorem dX7_restore_33 : decode cX7_restore 33 = .ok (.aload_n 0, 1) := by decide +kernel
theorem dX7_restore_34 : decode cX7_restore 34 = .ok (.getfield 7, 3) := by decide +kernel
theorem dX7_restore_37 : decode cX7_restore 37 = .ok (.iload_n 2, 1) := by decide +kernel
theorem dX7_restore_38 : decode cX7_restore 38 = .ok (.aload_n 0, 1) := by decide +kernel
theorem dX7_restore_39 : decode cX7_restore 39 = .ok (.getfield 25, 3) := by decide +kernel
theorem dX7_restore_42 : decode cX7_restore 42 = .ok (.sipush 371, 3) := by decide +kernel
theorem dX7_restore_45 : decode cX7_restore 45 = .ok (.iload_n 1, 1) := by decide +kernel
theorem dX7_restore_46 : decode cX7_restore 46 = .ok (.imul, 1) := by decide +kernel
theorem dX7_restore_47 : decode cX7_restore 47 = .ok (.iload_n 2, 1) := by decide +kernel
theorem dX7_restore_48 : decode cX7_restore 48 = .ok (.iadd, 1) := by decide +kernel
theorem dX7_restore_49 : decode cX7_restore 49 = .ok (.iaload, 1) := by decide +kernel
theorem dX7_restore_50 : decode cX7_restore 50 = .ok (.iastore, 1) := by decide +kernel
theorem dX7_restore_51 : decode cX7_restore 51 = .ok (.iinc 2 1, 3) := by decide +kernel
theorem dX7_restore_54 : decode cX7_restore 54 = .ok (.goto (-28), 3) := by decide +kernel
theorem dX7_restore_57 : decode cX7_restore 57 = .ok (.iconst 1, 1) := by decide +kernel
theorem dX7_restore_58 : decode cX7_restore 58 = .ok (.ireturn, 1) := by decide +kernel
set_option maxRecDepth 20000 in
theorem ggX7_count_X7_having : GoodIn wsX7_count wsX7_having := goodIn_r _ [8, 9, 10, 11, 7, 12, 1, 23, 24, 25, 26, 27, 28, 29, 30, 31] (by decide +kernel) (by decide +kernel)
set_option maxRecDepth 20000 in
theorem gX7_count_X7_having : GoodIn wsX7_count (wsV RX7 117 RX7 yX7_having wsX7_having) := goodIn_app (goodIn_of _ (by decide +kernel)) ggX7_count_X7_having
set_option maxRecDepth 20000 in
theorem ggX7_count_X7_bits : GoodIn wsX7_count wsX7_bits := goodIn_r _ [15] (by decide +kernel) (by decide +kernel)
set_option maxRecDepth 20000 in
theorem gX7_count_X7_bits : GoodIn wsX7_count (va_wsS RX7 120 yX7_bits wsX7_bits) := goodIn_app (goodIn_of _ (by decide +kernel)) ggX7_count_X7_bits
set_option maxRecDepth 20000 in
theorem ggX7_count_X7_isEpoch : GoodIn wsX7_count wsX7_isEpoch := goodIn_r _ [19, 1, 20, 21, 7, 22, 23, 24, 25, 26, 27, 28, 29, 30, 31] (by decide +kernel) (by decide +kernel)
set_option maxRecDepth 20000 in
theorem gX7_count_X7_isEpoch : GoodIn wsX7_count (wsV RX7 168 RX7 yX7_isEpoch wsX7_isEpoch) := goodIn_app (goodIn_of _ (by decide +kernel)) ggX7_count_X7_isEpoch
theorem dX7_count_0 : decode cX7_count 0 = .ok (.iload_n 1, 1) := by decide +kernel
theorem dX7_count_1 : decode cX7_count 1 = .ok (.tableswitch 129 0 7 #[47, 55, 63, 71, 76, 85, 94, 99], 47) := by decide +kernel
theorem dX7_count_48 : decode cX7_count 48 = .ok (.aload_n 0, 1) := by decide +kernel
theorem dX7_count_49 : decode cX7_count 49 = .ok (.getfield 7, 3) := by decide +kernel
theorem dX7_count_52 : decode cX7_count 52 = .ok (.bipush 88, 2) := by decide +kernel
theorem dX7_count_54 : decode cX7_count 54 = .ok (.iaload, 1) := by decide +kernel
theorem dX7_count_55 : decode cX7_count 55 = .ok (.ireturn, 1) := by decide +kernel
theorem dX7_count_56 : decode cX7_count 56 = .ok (.aload_n 0, 1) := by decide +kernel
theorem dX7_count_57 : decode cX7_count 57 = .ok (.getfield 7, 3) := by decide +kernel
theorem dX7_count_60 : decode cX7_count 60 = .ok (.bipush 89, 2) := by decide +kernel
theorem dX7_count_62 : decode cX7_count 62 = .ok (.iaload, 1) := by decide +kernel
theorem dX7_count_63 : decode cX7_count 63 = .ok (.ireturn, 1) := by decide +kernel
theorem dX7_count_64 : decode cX7_count 64 = .ok (.aload_n 0, 1) := by decide +kernel
theorem dX7_count_65 : decode cX7_count 65 = .ok (.invokevirtual 117, 3) := by decide +kernel
theorem dX7_count_68 : decode cX7_count 68 = .ok (.invokestatic 120, 3) := by decide +kernel
theorem dX7_count_71 : decode cX7_count 71 = .ok (.ireturn, 1) := by decide +kernel
theorem dX7_count_72 : decode cX7_count 72 = .ok (.aload_n 0, 1) := by decide +kernel
theorem dX7_count_73 : decode cX7_count 73 = .ok (.invokevirtual 117, 3) := by decide +kernel
theorem dX7_count_76 : decode cX7_count 76 = .ok (.ireturn, 1) := by decide +kernel
theorem dX7_count_77 : decode cX7_count 77 = .ok (.aload_n 0, 1) := by decide +kernel
theorem dX7_count_78 : decode cX7_count 78 = .ok (.getfield 7, 3) := by decide +kernel
theorem dX7_count_81 : decode cX7_count 81 = .ok (.sipush 367, 3) := by decide +kernel
theorem dX7_count_84 : decode cX7_count 84 = .ok (.iaload, 1) := by decide +kernel
theorem dX7_count_85 : decode cX7_count 85 = .ok (.ireturn, 1) := by decide +kernel
theorem dX7_count_86 : decode cX7_count 86 = .ok (.aload_n 0, 1) := by decide +kernel
theorem dX7_count_87 : decode cX7_count 87 = .ok (.getfield 7, 3) := by decide +kernel
theorem dX7_count_90 : decode cX7_count 90 = .ok (.sipush 368, 3) := by decide +kernel
theorem dX7_count_93 : decode cX7_count 93 = .ok (.iaload, 1) := by decide +kernel
theorem dX7_count_94 : decode cX7_count 94 = .ok (.ireturn, 1) := by decide +kernel
theorem dX7_count_95 : decode cX7_count 95 = .ok (.aload_n 0, 1) := by decide +kernel
theorem dX7_count_96 : decode cX7_count 96 = .ok (.getfield 71, 3) := by decide +kernel
theorem dX7_count_99 : decode cX7_count 99 = .ok (.ireturn, 1) := by decide +kernel
theorem dX7_count_100 : decode cX7_count 100 = .ok (.aload_n 0, 1) := by decide +kernel
theorem dX7_count_101 : decode cX7_count 101 = .ok (.getfield 28, 3) := by decide +kernel
theorem dX7_count_104 : decode cX7_count 104 = .ok (.iconst 0, 1) := by decide +kernel
theorem dX7_count_105 : decode cX7_count 105 = .ok (.baload, 1) := by decide +kernel
theorem dX7_count_106 : decode cX7_count 106 = .ok (.ifCond .eq 7, 3) := by decide +kernel
theorem dX7_count_109 : decode cX7_count 109 = .ok (.iconst 1, 1) := by decide +kernel
theorem dX7_count_110 : decode cX7_count 110 = .ok (.goto 4, 3) := by decide +kernel
theorem dX7_count_113 : decode cX7_count 113 = .ok (.iconst 0, 1) := by decide +kernel
theorem dX7_count_114 : decode cX7_count 114 = .ok (.aload_n 0, 1) := by decide +kernel
theorem dX7_count_115 : decode cX7_count 115 = .ok (.getfield 28, 3) := by decide +kernel
theorem dX7_count_118 : decode cX7_count 118 = .ok (.iconst 1, 1) := by decide +kernel
theorem dX7_count_119 : decode cX7_count 119 = .ok (.baload, 1) := by decide +kernel
theorem dX7_count_120 : decode cX7_count 120 = .ok (.ifCond .eq 7, 3) := by decide +kernel
theorem dX7_count_123 : decode cX7_count 123 = .ok (.iconst 2, 1) := by decide +kernel
theorem dX7_count_124 : decode cX7_count 124 = .ok (.goto 4, 3) := by decide +kernel
theorem dX7_count_127 : decode cX7_count 127 = .ok (.iconst 0, 1) := by decide +kernel
theorem dX7_count_128 : decode cX7_count 128 = .ok (.iadd, 1) := by decide +kernel
theorem dX7_count_129 : decode cX7_count 129 = .ok (.ireturn, 1) := by decide +kernel
theorem dX7_count_130 : decode cX7_count 130 = .ok (.iload_n 1, 1) := by decide +kernel
theorem dX7_count_131 : decode cX7_count 131 = .ok (.bipush 9, 2) := by decide +kernel
theorem dX7_count_133 : decode cX7_count 133 = .ok (.if_icmp .le 29, 3) := by decide +kernel
theorem dX7_count_136 : decode cX7_count 136 = .ok (.aload_n 0, 1) := by decide +kernel
theorem dX7_count_137 : decode cX7_count 137 = .ok (.iload_n 1, 1) := by decide +kernel
theorem dX7_count_138 : decode cX7_count 138 = .ok (.bipush 10, 2) := by decide +kernel
theorem dX7_count_140 : decode cX7_count 140 = .ok (.isub, 1) := by decide +kernel
theorem dX7_count_141 : decode cX7_count 141 = .ok (.invokevirtual 168, 3) := by decide +kernel
theorem dX7_count_144 : decode cX7_count 144 = .ok (.ifCond .eq 18, 3) := by decide +kernel
theorem dX7_count_147 : decode cX7_count 147 = .ok (.aload_n 0, 1) := by decide +kernel
theorem dX7_count_148 : decode cX7_count 148 = .ok (.getfield 7, 3) := by decide +kernel
theorem dX7_count_151 : decode cX7_count 151 = .ok (.bipush 95, 2) := by decide +kernel
theorem dX7_count_153 : decode cX7_count 153 = .ok (.iload_n 1, 1) := by decide +kernel
theorem dX7_count_154 : decode cX7_count 154 = .ok (.iadd, 1) := by decide +kernel
theorem dX7_count_155 : decode cX7_count 155 = .ok (.bipush 10, 2) := by decide +kernel
theorem dX7_count_157 : decode cX7_count 157 = .ok (.isub, 1) := by decide +kernel
theorem dX7_count_158 : decode cX7_count 158 = .ok (.iaload, 1) := by decide +kernel
theorem dX7_count_159 : decode cX7_count 159 = .ok (.goto 5, 3) := by decide +kernel
theorem dX7_count_162 : decode cX7_count 162 = .ok (.bipush (-2), 2) := by decide +kernel
theorem dX7_count_164 : decode cX7_count 164 = .ok (.ireturn, 1) := by decide +kernel
theorem dJ6_bitCount_0f7a4_0 : decode cJ6_bitCount_0f7a4 0 = .ok (.iload_n 0, 1) := by decide +kernel
theorem dJ6_bitCount_0f7a4_1 : decode cJ6_bitCount_0f7a4 1 = .ok (.iload_n 0, 1) := by decide +kernel
theorem dJ6_bitCount_0f7a4_2 : decode cJ6_bitCount_0f7a4 2 = .ok (.iconst 1, 1) := by decide +kernel
theorem dJ6_bitCount_0f7a4_3 : decode cJ6_bitCount_0f7a4 3 = .ok (.iushr, 1) := by decide +kernel
theorem dJ6_bitCount_0f7a4_4 : decode cJ6_bitCount_0f7a4 4 = .ok (.ldc_w 265, 3) := by decide +kernel
theorem dJ6_bitCount_0f7a4_7 : decode cJ6_bitCount_0f7a4 7 = .ok (.iand, 1) := by decide +kernel
theorem dJ6_bitCount_0f7a4_8 : decode cJ6_bitCount_0f7a4 8 = .ok (.isub, 1) := by decide +kernel
theorem dJ6_bitCount_0f7a4_9 : decode cJ6_bitCount_0f7a4 9 = .ok (.istore_n 0, 1) := by decide +kernel
theorem dJ6_bitCount_0f7a4_10 : decode cJ6_bitCount_0f7a4 10 = .ok (.iload_n 0, 1) := by decide +kernel
theorem dJ6_bitCount_0f7a4_11 : decode cJ6_bitCount_0f7a4 11 = .ok (.ldc_w 266, 3) := by decide +kernel
theorem dJ6_bitCount_0f7a4_14 : decode cJ6_bitCount_0f7a4 14 = .ok (.iand, 1) := by decide +kernel
theorem dJ6_bitCount_0f7a4_15 : decode cJ6_bitCount_0f7a4 15 = .ok (.iload_n 0, 1) := by decide +kernel
theorem dJ6_bitCount_0f7a4_16 : decode cJ6_bitCount_0f7a4 16 = .ok (.iconst 2, 1) := by decide +kernel
theorem dJ6_bitCount_0f7a4_17 : decode cJ6_bitCount_0f7a4 17 = .ok (.iushr, 1) := by decide +kernel
theorem dJ6_bitCount_0f7a4_18 : decode cJ6_bitCount_0f7a4 18 = .ok (.ldc_w 266, 3) := by decide +kernel
theorem dJ6_bitCount_0f7a4_21 : decode cJ6_bitCount_0f7a4 21 = .ok (.iand, 1) := by decide +kernel
theorem dJ6_bitCount_0f7a4_22 : decode cJ6_bitCount_0f7a4 22 = .ok (.iadd, 1) := by decide +kernel
theorem dJ6_bitCount_0f7a4_23 : decode cJ6_bitCount_0f7a4 23 = .ok (.istore_n 0, 1) := by decide +kernel
theorem dJ6_bitCount_0f7a4_24 : decode cJ6_bitCount_0f7a4 24 = .ok (.iload_n 0, 1) := by decide +kernel
theorem dJ6_bitCount_0f7a4_25 : decode cJ6_bitCount_0f7a4 25 = .ok (.iload_n 0, 1) := by decide +kernel
theorem dJ6_bitCount_0f7a4_26 : decode cJ6_bitCount_0f7a4 26 = .ok (.iconst 4, 1) := by decide +kernel
theorem dJ6_bitCount_0f7a4_27 : decode cJ6_bitCount_0f7a4 27 = .ok (.iushr, 1) := by decide +kernel
theorem dJ6_bitCount_0f7a4_28 : decode cJ6_bitCount_0f7a4 28 = .ok (.iadd, 1) := by decide +kernel
theorem dJ6_bitCount_0f7a4_29 : decode cJ6_bitCount_0f7a4 29 = .ok (.ldc_w 267, 3) := by decide +kernel
theorem dJ6_bitCount_0f7a4_32 : decode cJ6_bitCount_0f7a4 32 = .ok (.iand, 1) := by decide +kernel
theorem dJ6_bitCount_0f7a4_33 : decode cJ6_bitCount_0f7a4 33 = .ok (.istore_n 0, 1) := by decide +kernel
theorem dJ6_bitCount_0f7a4_34 : decode cJ6_bitCount_0f7a4 34 = .ok (.iload_n 0, 1) := by decide +kernel
theorem dJ6_bitCount_0f7a4_35 : decode cJ6_bitCount_0f7a4 35 = .ok (.iload_n 0, 1) := by decide +kernel
theorem dJ6_bitCount_0f7a4_36 : decode cJ6_bitCount_0f7a4 36 = .ok (.bipush 8, 2) := by decide +kernel
theorem dJ6_bitCount_0f7a4_38 : decode cJ6_bitCount_0f7a4 38 = .ok (.iushr, 1) := by decide +kernel
theorem dJ6_bitCount_0f7a4_39 : decode cJ6_bitCount_0f7a4 39 = .ok (.iadd, 1) := by decide +kernel
theorem dJ6_bitCount_0f7a4_40 : decode cJ6_bitCount_0f7a4 40 = .ok (.istore_n 0, 1) := by decide +kernel
theorem dJ6_bitCount_0f7a4_41 : decode cJ6_bitCount_0f7a4 41 = .ok (.iload_n 0, 1) := by decide +kernel
theorem dJ6_bitCount_0f7a4_42 : decode cJ6_bitCount_0f7a4 42 = .ok (.iload_n 0, 1) := by decide +kernel
theorem dJ6_bitCount_0f7a4_43 : decode cJ6_bitCount_0f7a4 43 = .ok (.bipush 16, 2) := by decide +kernel
theorem dJ6_bitCount_0f7a4_45 : decode cJ6_bitCount_0f7a4 45 = .ok (.iushr, 1) := by decide +kernel
theorem dJ6_bitCount_0f7a4_46 : decode cJ6_bitCount_0f7a4 46 = .ok (.iadd, 1) := by decide +kernel
theorem dJ6_bitCount_0f7a4_47 : decode cJ6_bitCount_0f7a4 47 = .ok (.istore_n 0, 1) := by decide +kernel
theorem dJ6_bitCount_0f7a4_48 : decode cJ6_bitCount_0f7a4 48 = .ok (.iload_n 0, 1) := by decide +kernel
theorem dJ6_bitCount_0f7a4_49 : decode cJ6_bitCount_0f7a4 49 = .ok (.bipush 63, 2) := by decide +kernel
theorem dJ6_bitCount_0f7a4_51 : decode cJ6_bitCount_0f7a4 51 = .ok (.iand, 1) := by decide +kernel
theorem dJ6_bitCount_0f7a4_52 : decode cJ6_bitCount_0f7a4 52 = .ok (.ireturn, 1) := by decide +kernel
theorem dJ9_min_7cf53_0 : decode cJ9_min_7cf53 0 = .ok (.iload_n 0, 1) := by decide +kernel
theorem dJ9_min_7cf53_1 : decode cJ9_min_7cf53 1 = .ok (.iload_n 1, 1) := by decide +kernel
theorem dJ9_min_7cf53_2 : decode cJ9_min_7cf53 2 = .ok (.if_icmp .gt 7, 3) := by decide +kernel
theorem dJ9_min_7cf53_5 : decode cJ9_min_7cf53 5 = .ok (.iload_n 0, 1) := by decide +kernel
theorem dJ9_min_7cf53_6 : decode cJ9_min_7cf53 6 = .ok (.goto 4, 3) := by decide +kernel
theorem dJ9_min_7cf53_9 : decode cJ9_min_7cf53 9 = .ok (.iload_n 1, 1) := by decide +kernel
theorem dJ9_min_7cf53_10 : decode cJ9_min_7cf53 10 = .ok (.ireturn, 1) := by decide +kernel
theorem dJ7_fill_53178_0 : decode cJ7_fill_53178 0 = .ok (.iconst 0, 1) := by decide +kernel
theorem dJ7_fill_53178_1 : decode cJ7_fill_53178 1 = .ok (.istore_n 2, 1) := by decide +kernel
theorem dJ7_fill_53178_2 : decode cJ7_fill_53178 2 = .ok (.aload_n 0, 1) := by decide +kernel
theorem dJ7_fill_53178_3 : decode cJ7_fill_53178 3 = .ok (.arraylength, 1) := by decide +kernel
theorem dJ7_fill_53178_4 : decode cJ7_fill_53178 4 = .ok (.istore_n 3, 1) := by decide +kernel
theorem dJ7_fill_53178_5 : decode cJ7_fill_53178 5 = .ok (.iload_n 2, 1) := by decide +kernel
theorem dJ7_fill_53178_6 : decode cJ7_fill_53178 6 = .ok (.iload_n 3, 1) := by decide +kernel
theorem dJ7_fill_53178_7 : decode cJ7_fill_53178 7 = .ok (.if_icmp .ge 13, 3) := by decide +kernel
theorem dJ7_fill_53178_10 : decode cJ7_fill_53178 10 = .ok (.aload_n 0, 1) := by decide +kernel
theorem dJ7_fill_53178_11 : decode cJ7_fill_53178 11 = .ok (.iload_n 2, 1) := by decide +kernel
theorem dJ7_fill_53178_12 : decode cJ7_fill_53178 12 = .ok (.iload_n 1, 1) := by decide +kernel
theorem dJ7_fill_53178_13 : decode cJ7_fill_53178 13 = .ok (.iastore, 1) := by decide +kernel
theorem dJ7_fill_53178_14 : decode cJ7_fill_53178 14 = .ok (.iinc 2 1, 3) := by decide +kernel
theorem dJ7_fill_53178_17 : decode cJ7_fill_53178 17 = .ok (.goto (-12), 3) := by decide +kernel
theorem dJ7_fill_53178_20 : decode cJ7_fill_53178 20 = .ok (.return_, 1) := by decide +kernel
end
section
/-! the judgement k_J: a walk over a fixed world whose ints are a memory; rules, one an instruction -/
abbrev k_M : Type := Nat → Nat → Int32
def k_put (σ : k_M) (i k : Nat) (v : Int32) : k_M := fun a => if a = i then upd (σ a) k v else σ a
abbrev k_C : Type := Program × Launch × Env × State × MethodId × Array Value × List Frame × Method × Code × (State → Prop) × va_G
abbrev k_p (Γ : k_C) : Program := Γ.1
abbrev k_l (Γ : k_C) : Launch := Γ.2.1
abbrev k_e (Γ : k_C) : Env := Γ.2.2.1
abbrev k_s (Γ : k_C) : State := Γ.2.2.2.1
abbrev k_m (Γ : k_C) : MethodId := Γ.2.2.2.2.1
abbrev k_ar (Γ : k_C) : Array Value := Γ.2.2.2.2.2.1
abbrev k_be (Γ : k_C) : List Frame := Γ.2.2.2.2.2.2.1
abbrev k_me (Γ : k_C) : Method := Γ.2.2.2.2.2.2.2.1
abbrev k_c (Γ : k_C) : Code := Γ.2.2.2.2.2.2.2.2.1
abbrev k_Q (Γ : k_C) : State → Prop := Γ.2.2.2.2.2.2.2.2.2.1
abbrev k_D (Γ : k_C) : va_G := Γ.2.2.2.2.2.2.2.2.2.2
/-- the links between nest mates -/
def k_nests : List Cond := [
  .fieldLinkNest "FreshShares" 59 "FreshShares$Script" "length" "I" "FreshShares",
  .fieldLinkNest "FreshShares" 115 "FreshShares$Loot" "members" "[I" "FreshShares",
  .fieldLinkNest "FreshShares$Circle" 83 "FreshShares$Loot" "epochs" "[I" "FreshShares",
  .fieldLinkNest "FreshShares" 118 "FreshShares$Loot" "epochs" "[I" "FreshShares",
  .fieldLinkNest "FreshShares" 121 "FreshShares$Loot" "shares" "[I" "FreshShares",
  .fieldLinkNest "FreshShares$Orders" 164 "FreshShares$Loot" "size" "I" "FreshShares",
  .fieldLinkNest "FreshShares$Circle" 80 "FreshShares$Loot" "size" "I" "FreshShares",
  .fieldLinkNest "FreshShares" 110 "FreshShares$Loot" "size" "I" "FreshShares",
  .fieldLinkNest "FreshShares" 41 "FreshShares$Circle" "rows" "[I" "FreshShares",
  .fieldLinkNest "FreshShares$Orders" 98 "FreshShares$Circle" "rows" "[I" "FreshShares",
  .fieldLinkNest "FreshShares" 49 "FreshShares$Circle" "bends" "[I" "FreshShares",
  .fieldLinkNest "FreshShares$Orders" 106 "FreshShares$Circle" "shares" "[I" "FreshShares",
  .fieldLinkNest "FreshShares" 161 "FreshShares$Circle" "shares" "[I" "FreshShares",
  .fieldLinkNest "FreshShares$Orders" 95 "FreshShares$Circle" "seals" "[I" "FreshShares",
  .fieldLinkNest "FreshShares" 84 "FreshShares$Circle" "seals" "[I" "FreshShares",
  .fieldLinkNest "FreshShares$Orders" 87 "FreshShares$Circle" "stolen" "LFreshShares$Loot;" "FreshShares",
  .fieldLinkNest "FreshShares" 106 "FreshShares$Circle" "stolen" "LFreshShares$Loot;" "FreshShares",
  .fieldLinkNest "FreshShares$Orders" 113 "FreshShares$Circle" "holders" "I" "FreshShares",
  .fieldLinkNest "FreshShares" 147 "FreshShares$Circle" "holders" "I" "FreshShares",
  .fieldLinkNest "FreshShares$Orders" 137 "FreshShares$Circle" "threshold" "I" "FreshShares",
  .fieldLinkNest "FreshShares" 87 "FreshShares$Circle" "threshold" "I" "FreshShares",
  .fieldLinkNest "FreshShares$Orders" 157 "FreshShares$Circle" "epoch" "I" "FreshShares",
  .fieldLinkNest "FreshShares" 144 "FreshShares$Circle" "epoch" "I" "FreshShares",
  .fieldLinkNest "FreshShares$Orders" 35 "FreshShares$Circle" "liars" "I" "FreshShares",
  .fieldLinkNest "FreshShares" 74 "FreshShares$Circle" "liars" "I" "FreshShares",
  .fieldLinkNest "FreshShares$Orders" 38 "FreshShares$Circle" "struck" "I" "FreshShares",
  .fieldLinkNest "FreshShares" 77 "FreshShares$Circle" "struck" "I" "FreshShares",
  .fieldLinkNest "FreshShares" 71 "FreshShares$Circle" "ordersDone" "I" "FreshShares",
  .fieldLinkNest "FreshShares" 23 "FreshShares$Orders" "circle" "LFreshShares$Circle;" "FreshShares",
  .methodLinkNest "FreshShares$Script" 37 ⟨"FreshShares", "isMember", "(I)Z"⟩ "FreshShares",
  .methodLinkNest "FreshShares$Orders" 154 ⟨"FreshShares", "isMember", "(I)Z"⟩ "FreshShares"]
theorem k_nests_ok : ∀ w ∈ k_nests, (∃ a i b n d h, w = Cond.fieldLinkNest a i b n d h) ∨ ∃ a i x h, w = Cond.methodLinkNest a i x h := by
  intro w hw
  simp only [k_nests, List.mem_cons, List.not_mem_nil, or_false] at hw
  rcases hw with rfl | rfl | rfl | rfl | rfl | rfl | rfl | rfl | rfl | rfl | rfl | rfl | rfl | rfl | rfl | rfl | rfl | rfl | rfl | rfl | rfl | rfl | rfl | rfl | rfl | rfl | rfl | rfl | rfl | rfl | rfl <;> first | exact Or.inl ⟨_, _, _, _, _, _, rfl⟩ | exact Or.inr ⟨_, _, _, _, rfl⟩
def k_N (U : State) : Prop := ∀ w ∈ k_nests, va_Nw w U
theorem k_N.warm {s U : State} (hW : s.WarmedH U.vm) (h : k_N s) : k_N U := by
  intro w hw
  rcases k_nests_ok w hw with ⟨a, i, b, n, d, h', rfl⟩ | ⟨a, i, x, h', rfl⟩
  · exact va_Nw.warmF hW (h _ hw)
  · exact va_Nw.warmM hW (h _ hw)
theorem k_N.same {s U : State} (hv : s.vm = U.vm) (h : k_N s) : k_N U := by
  intro w hw
  rcases k_nests_ok w hw with ⟨a, i, b, n, d, h', rfl⟩ | ⟨a, i, x, h', rfl⟩
  · exact va_Nw.same rfl hv (h _ hw)
  · exact va_Nw.same rfl hv (h _ hw)
theorem k_N.at {s : State} (h : k_N s) (k : Nat) {w : Cond} {args : Array Value} (hk : k_nests[k]? = some w) (ho : w.onTables = true) : w.before args s = true := va_Nw.use ho (h w (List.mem_of_getElem? hk))
/-- the addresses of a world -/
def k_wA (wd : k_M → va_W) : Nat → Prop := fun q => ∃ (σ : k_M) (k : Nat) (e : va_E), (wd σ)[k]? = some (q, e)
def k_F (rd : Bool) (Γ : k_C) (wd : k_M → va_W) (H : Heap) (locs : List Loc) : Prop := match rd with
  | true => H = (k_s Γ).heap ∧ locs = []
  | false => va_S (k_wA wd) (k_s Γ).heap H locs
def k_J (Γ : k_C) (R : Room) (nL : Nat) (rd : Bool) (wd : k_M → va_W) (pc : Nat) (lv : List (Nat × Value)) (st : List Value) (σ : k_M) : Prop :=
  ∀ (H : Heap) (locs : List Loc) (ls : Array Slot), va_P (k_D Γ) vwCl (wd σ) H → k_F rd Γ wd H locs → lv_has ls nL lv → W (k_p Γ) (k_l Γ) (k_e Γ) R (k_s Γ) (k_m Γ) (k_ar Γ) (k_be Γ) (k_me Γ) (k_c Γ) H locs 0 0 (k_Q Γ) (F0 (k_m Γ) pc ls st)
/-- the walk's standing facts -/
def k_G (Γ : k_C) (nL : Nat) (own : String) (cc : ByteArray) (Ts : List Cond) (tys : List (ClassId × FieldType)) : Prop :=
  (k_p Γ).tables.exec = Jvm.exec ∧ (k_c Γ).code = cc ∧ (k_c Γ).maxLocals = nL ∧ (k_s Γ).vm.findClass own = some (k_m Γ).cls ∧ (∀ w ∈ Ts, w.before (k_ar Γ) (k_s Γ) = true) ∧ va_K (k_D Γ) vwCl tys (k_s Γ) ∧ k_N (k_s Γ)
section KR
variable {Γ : k_C} {R : Room} {nL : Nat} {rd : Bool} {wd : k_M → va_W} {pc : Nat} {lv : List (Nat × Value)} {st : List Value} {σ : k_M} {own : String} {cc : ByteArray} {Ts : List Cond} {tys : List (ClassId × FieldType)}
theorem r_sub {lv' : List (Nat × Value)} (ks : List Nat) (hk : lv_pick lv' ks = lv) (k : k_J Γ R nL rd wd pc lv st σ) : k_J Γ R nL rd wd pc lv' st σ := fun H locs ls hP hF hl => k H locs ls hP hF (lv_sub hl ks hk)
theorem r_mem {σ' : k_M} (hw : wd σ = wd σ') (k : k_J Γ R nL rd wd pc lv st σ') : k_J Γ R nL rd wd pc lv st σ := fun H locs ls hP hF hl => k H locs ls (hw ▸ hP) hF hl
theorem r_iconst (G : k_G Γ nL own cc Ts tys) {n : Int} (v : Int32) (d : decode cc pc = .ok (.iconst n, 1)) (hv : Int32.ofInt n = v) (k : k_J Γ R nL rd wd (pc + 1) lv (.int v :: st) σ) : k_J Γ R nL rd wd pc lv st σ := fun H locs ls hP hF hl => lv_iconst G.1 G.2.1 d hv (k H locs ls hP hF hl)
theorem r_bipush (G : k_G Γ nL own cc Ts tys) {n : Int} (v : Int32) (d : decode cc pc = .ok (.bipush n, 2)) (hv : (Int8.ofInt n).toInt32 = v) (k : k_J Γ R nL rd wd (pc + 2) lv (.int v :: st) σ) : k_J Γ R nL rd wd pc lv st σ := fun H locs ls hP hF hl => lv_bipush G.1 G.2.1 d hv (k H locs ls hP hF hl)
theorem r_sipush (G : k_G Γ nL own cc Ts tys) {n : Int} (v : Int32) (d : decode cc pc = .ok (.sipush n, 3)) (hv : (Int16.ofInt n).toInt32 = v) (k : k_J Γ R nL rd wd (pc + 3) lv (.int v :: st) σ) : k_J Γ R nL rd wd pc lv st σ := fun H locs ls hP hF hl => lv_sipush G.1 G.2.1 d hv (k H locs ls hP hF hl)
theorem r_ldcw (G : k_G Γ nL own cc Ts tys) {index : Nat} (v : Int32) (hc : (Jvm.Cond.constant own index v).before (k_ar Γ) (k_s Γ) = true) (d : decode cc pc = .ok (.ldc_w index, 3)) (k : k_J Γ R nL rd wd (pc + 3) lv (.int v :: st) σ) : k_J Γ R nL rd wd pc lv st σ := fun H locs ls hP hF hl => lv_ldcw G.1 G.2.1 G.2.2.2.1 hc d (k H locs ls hP hF hl)
theorem r_iload_n (G : k_G Γ nL own cc Ts tys) {n : Fin 4} {i : Nat} {x : Int32} (d : decode cc pc = .ok (.iload_n n, 1)) (j : Nat) (hi : (n : Nat) = i) (hj : lv[j]? = some (i, .int x)) (k : k_J Γ R nL rd wd (pc + 1) lv (.int x :: st) σ) : k_J Γ R nL rd wd pc lv st σ := fun H locs ls hP hF hl => lv_iload_n G.1 G.2.1 d hi (lv_at hl j hj) (k H locs ls hP hF hl)
theorem r_iload (G : k_G Γ nL own cc Ts tys) {i : Nat} {x : Int32} (d : decode cc pc = .ok (.iload i, 2)) (j : Nat) (hj : lv[j]? = some (i, .int x)) (k : k_J Γ R nL rd wd (pc + 2) lv (.int x :: st) σ) : k_J Γ R nL rd wd pc lv st σ := fun H locs ls hP hF hl => lv_iload G.1 G.2.1 d (lv_at hl j hj) (k H locs ls hP hF hl)
theorem r_aload_n (G : k_G Γ nL own cc Ts tys) {n : Fin 4} {i : Nat} {x : Nat} (d : decode cc pc = .ok (.aload_n n, 1)) (j : Nat) (hi : (n : Nat) = i) (hj : lv[j]? = some (i, .ref x)) (k : k_J Γ R nL rd wd (pc + 1) lv (.ref x :: st) σ) : k_J Γ R nL rd wd pc lv st σ := fun H locs ls hP hF hl => lv_aload_n G.1 G.2.1 d hi (lv_at hl j hj) (k H locs ls hP hF hl)
theorem r_aload (G : k_G Γ nL own cc Ts tys) {i : Nat} {x : Nat} (d : decode cc pc = .ok (.aload i, 2)) (j : Nat) (hj : lv[j]? = some (i, .ref x)) (k : k_J Γ R nL rd wd (pc + 2) lv (.ref x :: st) σ) : k_J Γ R nL rd wd pc lv st σ := fun H locs ls hP hF hl => lv_aload G.1 G.2.1 d (lv_at hl j hj) (k H locs ls hP hF hl)
theorem r_istore_n (G : k_G Γ nL own cc Ts tys) {n : Fin 4} {i : Nat} {x : Int32} {lv' : List (Nat × Value)} (d : decode cc pc = .ok (.istore_n n, 1)) (hi : (n : Nat) = i) (hn : i < nL) (hv : (i, Value.int x) :: lv.filter (fun q => !(q.1 == i) && !(q.1 + 1 == i && q.2.category == 2)) = lv') (k : k_J Γ R nL rd wd (pc + 1) lv' st σ) : k_J Γ R nL rd wd pc lv (.int x :: st) σ := fun H locs ls hP hF hl => lv_istore_n G.1 G.2.1 d hi hl hn hv (fun ls hl => k H locs ls hP hF hl)
theorem r_istore (G : k_G Γ nL own cc Ts tys) {i : Nat} {x : Int32} {lv' : List (Nat × Value)} (d : decode cc pc = .ok (.istore i, 2)) (hn : i < nL) (hv : (i, Value.int x) :: lv.filter (fun q => !(q.1 == i) && !(q.1 + 1 == i && q.2.category == 2)) = lv') (k : k_J Γ R nL rd wd (pc + 2) lv' st σ) : k_J Γ R nL rd wd pc lv (.int x :: st) σ := fun H locs ls hP hF hl => lv_istore G.1 G.2.1 d hl hn hv (fun ls hl => k H locs ls hP hF hl)
theorem r_astore_n (G : k_G Γ nL own cc Ts tys) {n : Fin 4} {i : Nat} {x : Nat} {lv' : List (Nat × Value)} (d : decode cc pc = .ok (.astore_n n, 1)) (hi : (n : Nat) = i) (hn : i < nL) (hv : (i, Value.ref x) :: lv.filter (fun q => !(q.1 == i) && !(q.1 + 1 == i && q.2.category == 2)) = lv') (k : k_J Γ R nL rd wd (pc + 1) lv' st σ) : k_J Γ R nL rd wd pc lv (.ref x :: st) σ := fun H locs ls hP hF hl => lv_astore_n G.1 G.2.1 d hi hl hn hv (fun ls hl => k H locs ls hP hF hl)
theorem r_iinc (G : k_G Γ nL own cc Ts tys) {i : Nat} {n : Int} {x w : Int32} {lv' : List (Nat × Value)} (j : Nat) (d : decode cc pc = .ok (.iinc i n, 3)) (hw : Int32.ofInt n = w) (hj : lv[j]? = some (i, .int x)) (hn : i < nL) (hv : (i, Value.int (x + w)) :: lv.filter (fun q => !(q.1 == i) && !(q.1 + 1 == i && q.2.category == 2)) = lv') (k : k_J Γ R nL rd wd (pc + 3) lv' st σ) : k_J Γ R nL rd wd pc lv st σ := fun H locs ls hP hF hl => lv_iinc G.1 G.2.1 d hl hj (by rw [hw]) hn hv (fun ls hl => k H locs ls hP hF hl)
theorem r_iadd (G : k_G Γ nL own cc Ts tys) {x y : Int32} (d : decode cc pc = .ok (.iadd, 1)) (k : k_J Γ R nL rd wd (pc + 1) lv (.int (x + y) :: st) σ) : k_J Γ R nL rd wd pc lv (.int y :: .int x :: st) σ := fun H locs ls hP hF hl => lv_iadd G.1 G.2.1 d (k H locs ls hP hF hl)
theorem r_isub (G : k_G Γ nL own cc Ts tys) {x y : Int32} (d : decode cc pc = .ok (.isub, 1)) (k : k_J Γ R nL rd wd (pc + 1) lv (.int (x - y) :: st) σ) : k_J Γ R nL rd wd pc lv (.int y :: .int x :: st) σ := fun H locs ls hP hF hl => lv_isub G.1 G.2.1 d (k H locs ls hP hF hl)
theorem r_imul (G : k_G Γ nL own cc Ts tys) {x y : Int32} (d : decode cc pc = .ok (.imul, 1)) (k : k_J Γ R nL rd wd (pc + 1) lv (.int (x * y) :: st) σ) : k_J Γ R nL rd wd pc lv (.int y :: .int x :: st) σ := fun H locs ls hP hF hl => lv_imul G.1 G.2.1 d (k H locs ls hP hF hl)
theorem r_iand (G : k_G Γ nL own cc Ts tys) {x y : Int32} (d : decode cc pc = .ok (.iand, 1)) (k : k_J Γ R nL rd wd (pc + 1) lv (.int (x &&& y) :: st) σ) : k_J Γ R nL rd wd pc lv (.int y :: .int x :: st) σ := fun H locs ls hP hF hl => lv_iand G.1 G.2.1 d (k H locs ls hP hF hl)
theorem r_ior (G : k_G Γ nL own cc Ts tys) {x y : Int32} (d : decode cc pc = .ok (.ior, 1)) (k : k_J Γ R nL rd wd (pc + 1) lv (.int (x ||| y) :: st) σ) : k_J Γ R nL rd wd pc lv (.int y :: .int x :: st) σ := fun H locs ls hP hF hl => lv_ior G.1 G.2.1 d (k H locs ls hP hF hl)
theorem r_ixor (G : k_G Γ nL own cc Ts tys) {x y : Int32} (d : decode cc pc = .ok (.ixor, 1)) (k : k_J Γ R nL rd wd (pc + 1) lv (.int (x ^^^ y) :: st) σ) : k_J Γ R nL rd wd pc lv (.int y :: .int x :: st) σ := fun H locs ls hP hF hl => lv_ixor G.1 G.2.1 d (k H locs ls hP hF hl)
theorem r_ishl (G : k_G Γ nL own cc Ts tys) {x y : Int32} (d : decode cc pc = .ok (.ishl, 1)) (k : k_J Γ R nL rd wd (pc + 1) lv (.int (x <<< (y &&& 31)) :: st) σ) : k_J Γ R nL rd wd pc lv (.int y :: .int x :: st) σ := fun H locs ls hP hF hl => lv_ishl G.1 G.2.1 d (k H locs ls hP hF hl)
theorem r_ishr (G : k_G Γ nL own cc Ts tys) {x y : Int32} (d : decode cc pc = .ok (.ishr, 1)) (k : k_J Γ R nL rd wd (pc + 1) lv (.int (x >>> (y &&& 31)) :: st) σ) : k_J Γ R nL rd wd pc lv (.int y :: .int x :: st) σ := fun H locs ls hP hF hl => lv_ishr G.1 G.2.1 d (k H locs ls hP hF hl)
def k_ushr (x y : Int32) : Int32 := (x.toUInt32 >>> (y.toUInt32 &&& Int32.toUInt32 31)).toInt32
theorem r_iushr (G : k_G Γ nL own cc Ts tys) {x y : Int32} (d : decode cc pc = .ok (.iushr, 1)) (k : k_J Γ R nL rd wd (pc + 1) lv (.int (k_ushr x y) :: st) σ) : k_J Γ R nL rd wd pc lv (.int y :: .int x :: st) σ := fun H locs ls hP hF hl => lv_iushr G.1 G.2.1 d rfl (k H locs ls hP hF hl)
def k_rem (x y : Int32) : Int32 := x - x / y * y
theorem r_irem (G : k_G Γ nL own cc Ts tys) {x y : Int32} (hne : ¬ y = 0) (d : decode cc pc = .ok (.irem, 1)) (k : k_J Γ R nL rd wd (pc + 1) lv (.int (k_rem x y) :: st) σ) : k_J Γ R nL rd wd pc lv (.int y :: .int x :: st) σ := fun H locs ls hP hF hl => lv_irem G.1 G.2.1 d hne (k H locs ls hP hF hl)
theorem r_idiv (G : k_G Γ nL own cc Ts tys) {x y : Int32} (hne : ¬ y = 0) (d : decode cc pc = .ok (.idiv, 1)) (k : k_J Γ R nL rd wd (pc + 1) lv (.int (x / y) :: st) σ) : k_J Γ R nL rd wd pc lv (.int y :: .int x :: st) σ := fun H locs ls hP hF hl => lv_idiv G.1 G.2.1 d hne (k H locs ls hP hF hl)
theorem r_dup (G : k_G Γ nL own cc Ts tys) {va : Value} (hva : va.category = 1) (d : decode cc pc = .ok (.dup, 1)) (k : k_J Γ R nL rd wd (pc + 1) lv (va :: va :: st) σ) : k_J Γ R nL rd wd pc lv (va :: st) σ := fun H locs ls hP hF hl => lv_dup G.1 G.2.1 d hva (k H locs ls hP hF hl)
theorem r_pop (G : k_G Γ nL own cc Ts tys) {va : Value} (hva : va.category = 1) (d : decode cc pc = .ok (.pop, 1)) (k : k_J Γ R nL rd wd (pc + 1) lv st σ) : k_J Γ R nL rd wd pc lv (va :: st) σ := fun H locs ls hP hF hl => lv_pop G.1 G.2.1 d hva (k H locs ls hP hF hl)
theorem r_dup2 (G : k_G Γ nL own cc Ts tys) {va vb : Value} (hva : va.category = 1) (hvb : vb.category = 1) (d : decode cc pc = .ok (.dup2, 1)) (k : k_J Γ R nL rd wd (pc + 1) lv (va :: vb :: va :: vb :: st) σ) : k_J Γ R nL rd wd pc lv (va :: vb :: st) σ := fun H locs ls hP hF hl => lv_dup2_11 G.1 G.2.1 d hva hvb (k H locs ls hP hF hl)
theorem r_min (G : k_G Γ nL own cc Ts tys) {x y : Int32} {index : Nat} (hlink : (Cond.methodLink own index Lib.Math.min.name).before (k_ar Γ) (k_s Γ) = true) (hstat : (Cond.static Lib.Math.min.name).before (k_ar Γ) (k_s Γ) = true) (hini : (Cond.initialized "java/lang/Math").before (k_ar Γ) (k_s Γ) = true) (hcode : (Cond.code Lib.Math.min.name Lib.Math.min.code 2 (some .int)).before (k_ar Γ) (k_s Γ) = true) (hfr : 1 ≤ R.frames) (hlo : (st.map fun v => v.category).sum + 13 ≤ R.locals) (d : decode cc pc = .ok (.invokestatic index, 3)) (k : k_J Γ R nL rd wd (pc + 3) lv (.int (if y < x then y else x) :: st) σ) : k_J Γ R nL rd wd pc lv (.int y :: .int x :: st) σ :=
  fun H locs ls hP hF hl => va_mmin G.1 G.2.1 (G.2.2.1.trans hl.1.symm) G.2.2.2.1 hlink hstat hini hcode hfr hlo (Nat.zero_le _) (Nat.zero_le _) d (k H locs ls hP hF hl)
theorem r_goto (G : k_G Γ nL own cc Ts tys) {off : Int} (tgt : Nat) (d : decode cc pc = .ok (.goto off, 3)) (ht : (pc : Int) + off = (tgt : Int)) (k : k_J Γ R nL rd wd tgt lv st σ) : k_J Γ R nL rd wd pc lv st σ := fun H locs ls hP hF hl => lv_goto G.1 G.2.1 d ht (k H locs ls hP hF hl)
theorem r_if_eq (G : k_G Γ nL own cc Ts tys) {x : Int32} {off : Int} (tgt : Nat) (d : decode cc pc = .ok (.ifCond .eq off, 3)) (ht : (pc : Int) + off = (tgt : Int)) (kt : x = 0 → k_J Γ R nL rd wd tgt lv st σ) (kf : ¬ x = 0 → k_J Γ R nL rd wd (pc + 3) lv st σ) : k_J Γ R nL rd wd pc lv (.int x :: st) σ := fun H locs ls hP hF hl => lv_if_eq G.1 G.2.1 d ht (fun hc => kt hc H locs ls hP hF hl) (fun hc => kf hc H locs ls hP hF hl)
theorem r_icmp_eq (G : k_G Γ nL own cc Ts tys) {x y : Int32} {off : Int} (tgt : Nat) (d : decode cc pc = .ok (.if_icmp .eq off, 3)) (ht : (pc : Int) + off = (tgt : Int)) (kt : x = y → k_J Γ R nL rd wd tgt lv st σ) (kf : ¬ x = y → k_J Γ R nL rd wd (pc + 3) lv st σ) : k_J Γ R nL rd wd pc lv (.int y :: .int x :: st) σ := fun H locs ls hP hF hl => lv_icmp_eq G.1 G.2.1 d ht (fun hc => kt hc H locs ls hP hF hl) (fun hc => kf hc H locs ls hP hF hl)
theorem r_if_ne (G : k_G Γ nL own cc Ts tys) {x : Int32} {off : Int} (tgt : Nat) (d : decode cc pc = .ok (.ifCond .ne off, 3)) (ht : (pc : Int) + off = (tgt : Int)) (kt : ¬ x = 0 → k_J Γ R nL rd wd tgt lv st σ) (kf : x = 0 → k_J Γ R nL rd wd (pc + 3) lv st σ) : k_J Γ R nL rd wd pc lv (.int x :: st) σ := fun H locs ls hP hF hl => lv_if_ne G.1 G.2.1 d ht (fun hc => kt hc H locs ls hP hF hl) (fun hc => kf hc H locs ls hP hF hl)
theorem r_icmp_ne (G : k_G Γ nL own cc Ts tys) {x y : Int32} {off : Int} (tgt : Nat) (d : decode cc pc = .ok (.if_icmp .ne off, 3)) (ht : (pc : Int) + off = (tgt : Int)) (kt : ¬ x = y → k_J Γ R nL rd wd tgt lv st σ) (kf : x = y → k_J Γ R nL rd wd (pc + 3) lv st σ) : k_J Γ R nL rd wd pc lv (.int y :: .int x :: st) σ := fun H locs ls hP hF hl => lv_icmp_ne G.1 G.2.1 d ht (fun hc => kt hc H locs ls hP hF hl) (fun hc => kf hc H locs ls hP hF hl)
theorem r_if_lt (G : k_G Γ nL own cc Ts tys) {x : Int32} {off : Int} (tgt : Nat) (d : decode cc pc = .ok (.ifCond .lt off, 3)) (ht : (pc : Int) + off = (tgt : Int)) (kt : x < 0 → k_J Γ R nL rd wd tgt lv st σ) (kf : ¬ x < 0 → k_J Γ R nL rd wd (pc + 3) lv st σ) : k_J Γ R nL rd wd pc lv (.int x :: st) σ := fun H locs ls hP hF hl => lv_if_lt G.1 G.2.1 d ht (fun hc => kt hc H locs ls hP hF hl) (fun hc => kf hc H locs ls hP hF hl)
theorem r_icmp_lt (G : k_G Γ nL own cc Ts tys) {x y : Int32} {off : Int} (tgt : Nat) (d : decode cc pc = .ok (.if_icmp .lt off, 3)) (ht : (pc : Int) + off = (tgt : Int)) (kt : x < y → k_J Γ R nL rd wd tgt lv st σ) (kf : ¬ x < y → k_J Γ R nL rd wd (pc + 3) lv st σ) : k_J Γ R nL rd wd pc lv (.int y :: .int x :: st) σ := fun H locs ls hP hF hl => lv_icmp_lt G.1 G.2.1 d ht (fun hc => kt hc H locs ls hP hF hl) (fun hc => kf hc H locs ls hP hF hl)
theorem r_if_ge (G : k_G Γ nL own cc Ts tys) {x : Int32} {off : Int} (tgt : Nat) (d : decode cc pc = .ok (.ifCond .ge off, 3)) (ht : (pc : Int) + off = (tgt : Int)) (kt : 0 ≤ x → k_J Γ R nL rd wd tgt lv st σ) (kf : ¬ 0 ≤ x → k_J Γ R nL rd wd (pc + 3) lv st σ) : k_J Γ R nL rd wd pc lv (.int x :: st) σ := fun H locs ls hP hF hl => lv_if_ge G.1 G.2.1 d ht (fun hc => kt hc H locs ls hP hF hl) (fun hc => kf hc H locs ls hP hF hl)
theorem r_icmp_ge (G : k_G Γ nL own cc Ts tys) {x y : Int32} {off : Int} (tgt : Nat) (d : decode cc pc = .ok (.if_icmp .ge off, 3)) (ht : (pc : Int) + off = (tgt : Int)) (kt : y ≤ x → k_J Γ R nL rd wd tgt lv st σ) (kf : ¬ y ≤ x → k_J Γ R nL rd wd (pc + 3) lv st σ) : k_J Γ R nL rd wd pc lv (.int y :: .int x :: st) σ := fun H locs ls hP hF hl => lv_icmp_ge G.1 G.2.1 d ht (fun hc => kt hc H locs ls hP hF hl) (fun hc => kf hc H locs ls hP hF hl)
theorem r_if_gt (G : k_G Γ nL own cc Ts tys) {x : Int32} {off : Int} (tgt : Nat) (d : decode cc pc = .ok (.ifCond .gt off, 3)) (ht : (pc : Int) + off = (tgt : Int)) (kt : 0 < x → k_J Γ R nL rd wd tgt lv st σ) (kf : ¬ 0 < x → k_J Γ R nL rd wd (pc + 3) lv st σ) : k_J Γ R nL rd wd pc lv (.int x :: st) σ := fun H locs ls hP hF hl => lv_if_gt G.1 G.2.1 d ht (fun hc => kt hc H locs ls hP hF hl) (fun hc => kf hc H locs ls hP hF hl)
theorem r_icmp_gt (G : k_G Γ nL own cc Ts tys) {x y : Int32} {off : Int} (tgt : Nat) (d : decode cc pc = .ok (.if_icmp .gt off, 3)) (ht : (pc : Int) + off = (tgt : Int)) (kt : y < x → k_J Γ R nL rd wd tgt lv st σ) (kf : ¬ y < x → k_J Γ R nL rd wd (pc + 3) lv st σ) : k_J Γ R nL rd wd pc lv (.int y :: .int x :: st) σ := fun H locs ls hP hF hl => lv_icmp_gt G.1 G.2.1 d ht (fun hc => kt hc H locs ls hP hF hl) (fun hc => kf hc H locs ls hP hF hl)
theorem r_if_le (G : k_G Γ nL own cc Ts tys) {x : Int32} {off : Int} (tgt : Nat) (d : decode cc pc = .ok (.ifCond .le off, 3)) (ht : (pc : Int) + off = (tgt : Int)) (kt : x ≤ 0 → k_J Γ R nL rd wd tgt lv st σ) (kf : ¬ x ≤ 0 → k_J Γ R nL rd wd (pc + 3) lv st σ) : k_J Γ R nL rd wd pc lv (.int x :: st) σ := fun H locs ls hP hF hl => lv_if_le G.1 G.2.1 d ht (fun hc => kt hc H locs ls hP hF hl) (fun hc => kf hc H locs ls hP hF hl)
theorem r_icmp_le (G : k_G Γ nL own cc Ts tys) {x y : Int32} {off : Int} (tgt : Nat) (d : decode cc pc = .ok (.if_icmp .le off, 3)) (ht : (pc : Int) + off = (tgt : Int)) (kt : x ≤ y → k_J Γ R nL rd wd tgt lv st σ) (kf : ¬ x ≤ y → k_J Γ R nL rd wd (pc + 3) lv st σ) : k_J Γ R nL rd wd pc lv (.int y :: .int x :: st) σ := fun H locs ls hP hF hl => lv_icmp_le G.1 G.2.1 d ht (fun hc => kt hc H locs ls hP hF hl) (fun hc => kf hc H locs ls hP hF hl)
theorem r_get (G : k_G Γ nL own cc Ts tys) {ref C : String} {T : u_T} {N ci index ad : Nat} {fs : List Value} {v : Value} (hin : ∀ w ∈ u_ws C T N, w ∈ Ts) (q0 k : Nat) (he : (wd σ)[q0]? = some (ad, .inr (ci, fs))) (hc : vwCl[ci]? = some (C, T, N)) (hk : k < N) (hlink : (Cond.fieldLink own index ref (T k).2.1 (T k).2.2.1).before (k_ar Γ) (k_s Γ) = true) (hsame : (T k).1 = ref) (hv : fs[k]? = some v) (d : decode cc pc = .ok (.getfield index, 3)) (kk : k_J Γ R nL rd wd (pc + 3) lv (v :: st) σ) : k_J Γ R nL rd wd pc lv (.ref ad :: st) σ :=
  fun H locs ls hP hF hl => va_get G.1 G.2.1 G.2.2.2.2.1 hin G.2.2.2.1 G.2.2.2.2.2.1 hP q0 he hc k hk hlink (fun x h => hsame ▸ h) hv d (kk H locs ls hP hF hl)
theorem r_getN (G : k_G Γ nL own cc Ts tys) {ref C host : String} {T : u_T} {N ci index ad : Nat} {fs : List Value} {v : Value} (hin : ∀ w ∈ u_ws C T N, w ∈ Ts) (q0 k : Nat) (he : (wd σ)[q0]? = some (ad, .inr (ci, fs))) (hc : vwCl[ci]? = some (C, T, N)) (hk : k < N) (hlink : (Cond.fieldLinkNest own index ref (T k).2.1 (T k).2.2.1 host).before (k_ar Γ) (k_s Γ) = true) (hsame : (T k).1 = ref) (hv : fs[k]? = some v) (d : decode cc pc = .ok (.getfield index, 3)) (kk : k_J Γ R nL rd wd (pc + 3) lv (v :: st) σ) : k_J Γ R nL rd wd pc lv (.ref ad :: st) σ :=
  fun H locs ls hP hF hl => va_getN G.1 G.2.1 G.2.2.2.2.1 hin G.2.2.2.1 G.2.2.2.2.2.1 hP q0 he hc k hk hlink (fun x h => hsame ▸ h) hv d (kk H locs ls hP hF hl)
theorem r_iald (G : k_G Γ nL own cc Ts tys) (q0 t0 : Nat) {ad : Nat} {cA : ClassId} {n : Nat} {f : Nat → Int32} {i : Int32} (ha : (wd σ)[q0]? = some (ad, .inl (cA, n, .inl f))) (ht : tys[t0]? = some (cA, .int)) (hin : vp_in i n) (d : decode cc pc = .ok (.iaload, 1)) (kk : k_J Γ R nL rd wd (pc + 1) lv (.int (f i.toNatClampNeg) :: st) σ) : k_J Γ R nL rd wd pc lv (.int i :: .ref ad :: st) σ :=
  fun H locs ls hP hF hl => va_iald G.1 G.2.1 G.2.2.2.2.2.1 hP q0 t0 ha ht hin d (kk H locs ls hP hF hl)
theorem r_zald (G : k_G Γ nL own cc Ts tys) (q0 t0 : Nat) {ad : Nat} {cA : ClassId} {n : Nat} {f : Nat → Int32} {i : Int32} (ha : (wd σ)[q0]? = some (ad, .inl (cA, n, .inl f))) (ht : tys[t0]? = some (cA, .boolean)) (hin : vp_in i n) (d : decode cc pc = .ok (.baload, 1)) (kk : k_J Γ R nL rd wd (pc + 1) lv (.int (f i.toNatClampNeg) :: st) σ) : k_J Γ R nL rd wd pc lv (.int i :: .ref ad :: st) σ :=
  fun H locs ls hP hF hl => va_zald G.1 G.2.1 G.2.2.2.2.2.1 hP q0 t0 ha ht hin d (kk H locs ls hP hF hl)
theorem r_aald (G : k_G Γ nL own cc Ts tys) (q0 t0 : Nat) {ad : Nat} {cA : ClassId} {C : String} {n : Nat} {f : Nat → Option Nat} {i : Int32} (ha : (wd σ)[q0]? = some (ad, .inl (cA, n, .inr (.inr (.inr (.inr f)))))) (ht : tys[t0]? = some (cA, .object C)) (hin : vp_in i n) (d : decode cc pc = .ok (.aaload, 1)) (kk : k_J Γ R nL rd wd (pc + 1) lv (va_rf (f i.toNatClampNeg) :: st) σ) : k_J Γ R nL rd wd pc lv (.int i :: .ref ad :: st) σ :=
  fun H locs ls hP hF hl => va_aldq G.1 G.2.1 G.2.2.2.2.2.1 hP q0 t0 ha ht hin d (kk H locs ls hP hF hl)
theorem r_ifnull (G : k_G Γ nL own cc Ts tys) {o : Option Nat} {off : Int} (tgt : Nat) (d : decode cc pc = .ok (.ifnull off, 3)) (ht : (pc : Int) + off = (tgt : Int)) (kt : o = none → k_J Γ R nL rd wd tgt lv st σ) (kf : ∀ y, o = some y → k_J Γ R nL rd wd (pc + 3) lv st σ) : k_J Γ R nL rd wd pc lv (va_rf o :: st) σ := by
  intro H locs ls hP hF hl
  cases o with
  | none => exact lv_ifnullN G.1 G.2.1 d ht (kt rfl H locs ls hP hF hl)
  | some y => exact lv_ifnull G.1 G.2.1 d (kf y rfl H locs ls hP hF hl)
theorem r_ifnonnull (G : k_G Γ nL own cc Ts tys) {o : Option Nat} {off : Int} (tgt : Nat) (d : decode cc pc = .ok (.ifnonnull off, 3)) (ht : (pc : Int) + off = (tgt : Int)) (kt : o = none → k_J Γ R nL rd wd (pc + 3) lv st σ) (kf : ∀ y, o = some y → k_J Γ R nL rd wd tgt lv st σ) : k_J Γ R nL rd wd pc lv (va_rf o :: st) σ := by
  intro H locs ls hP hF hl
  cases o with
  | none => exact lv_ifnonnullN G.1 G.2.1 d (kt rfl H locs ls hP hF hl)
  | some y => exact lv_ifnonnull G.1 G.2.1 d ht (kf y rfl H locs ls hP hF hl)
theorem r_alen (G : k_G Γ nL own cc Ts tys) (q0 t0 : Nat) {ad : Nat} {cA : ClassId} {x : vp_A} {ty : FieldType} (v : Int32) (ha : (wd σ)[q0]? = some (ad, .inl (cA, x))) (ht : tys[t0]? = some (cA, ty)) (hv : Int32.ofNat x.1 = v) (d : decode cc pc = .ok (.arraylength, 1)) (kk : k_J Γ R nL rd wd (pc + 1) lv (.int v :: st) σ) : k_J Γ R nL rd wd pc lv (.ref ad :: st) σ :=
  fun H locs ls hP hF hl => va_alen G.1 G.2.1 G.2.2.2.2.2.1 hP q0 t0 ha ht hv d (kk H locs ls hP hF hl)
theorem r_put (G : k_G Γ nL own cc Ts tys) (hD : ∀ σ, va_D (k_wA wd) (wd σ)) {ref C : String} {T : u_T} {N ci index ad : Nat} {fs : List Value} {v : Value} {ty : FieldType} (ty0 : Nat → FieldType) (hty : ∀ k, k < N → parseFieldDescriptor (T k).2.2.1 = some (ty0 k)) (hnm : ∀ a, a < N → ∀ b, b < N → a ≠ b → (T a).2.1 ≠ (T b).2.1) (hin : ∀ w ∈ u_ws C T N, w ∈ Ts) (q0 k : Nat) (he : (wd σ)[q0]? = some (ad, .inr (ci, fs))) (hc : vwCl[ci]? = some (C, T, N)) (hk : k < N) (hlink : (Cond.fieldLink own index ref (T k).2.1 (T k).2.2.1).before (k_ar Γ) (k_s Γ) = true) (hsame : (T k).1 = ref) (hfin : (T k).2.2.2 = false) (hd : parseFieldDescriptor (T k).2.2.1 = some ty) (hn : narrow ty v = v) (hfit : fits ty v = true) (hl0 : k < fs.length) (σ' : k_M) (hw : (wd σ).set q0 (ad, .inr (ci, fs.set k v)) = wd σ') (d : decode cc pc = .ok (.putfield index, 3)) (kk : k_J Γ R nL false wd (pc + 3) lv st σ') : k_J Γ R nL false wd pc lv (v :: .ref ad :: st) σ :=
  fun H locs ls hP hF hl => va_put G.1 G.2.1 G.2.2.2.2.1 hin ty0 hty hnm G.2.2.2.1 G.2.2.2.2.2.1 hP (hD σ) hF q0 he hc k hk hlink (fun x h => hsame ▸ h) hfin hd hn hfit hl0 d (fun H1 locs1 h1 _ h3 => kk H1 locs1 ls (hw ▸ h1) h3 hl)
theorem r_putN (G : k_G Γ nL own cc Ts tys) (hD : ∀ σ, va_D (k_wA wd) (wd σ)) {ref C host : String} {T : u_T} {N ci index ad : Nat} {fs : List Value} {v : Value} {ty : FieldType} (ty0 : Nat → FieldType) (hty : ∀ k, k < N → parseFieldDescriptor (T k).2.2.1 = some (ty0 k)) (hnm : ∀ a, a < N → ∀ b, b < N → a ≠ b → (T a).2.1 ≠ (T b).2.1) (hin : ∀ w ∈ u_ws C T N, w ∈ Ts) (q0 k : Nat) (he : (wd σ)[q0]? = some (ad, .inr (ci, fs))) (hc : vwCl[ci]? = some (C, T, N)) (hk : k < N) (hlink : (Cond.fieldLinkNest own index ref (T k).2.1 (T k).2.2.1 host).before (k_ar Γ) (k_s Γ) = true) (hsame : (T k).1 = ref) (hfin : (T k).2.2.2 = false) (hd : parseFieldDescriptor (T k).2.2.1 = some ty) (hn : narrow ty v = v) (hfit : fits ty v = true) (hl0 : k < fs.length) (σ' : k_M) (hw : (wd σ).set q0 (ad, .inr (ci, fs.set k v)) = wd σ') (d : decode cc pc = .ok (.putfield index, 3)) (kk : k_J Γ R nL false wd (pc + 3) lv st σ') : k_J Γ R nL false wd pc lv (v :: .ref ad :: st) σ :=
  fun H locs ls hP hF hl => va_putN G.1 G.2.1 G.2.2.2.2.1 hin ty0 hty hnm G.2.2.2.1 G.2.2.2.2.2.1 hP (hD σ) hF q0 he hc k hk hlink (fun x h => hsame ▸ h) hfin hd hn hfit hl0 d (fun H1 locs1 h1 _ h3 => kk H1 locs1 ls (hw ▸ h1) h3 hl)
theorem r_iast (G : k_G Γ nL own cc Ts tys) (hD : ∀ σ, va_D (k_wA wd) (wd σ)) (q0 t0 : Nat) {ad : Nat} {cA : ClassId} {n : Nat} {f : Nat → Int32} {i x : Int32} (ha : (wd σ)[q0]? = some (ad, .inl (cA, n, .inl f))) (ht : tys[t0]? = some (cA, .int)) (hin : vp_in i n) (σ' : k_M) (hw : (wd σ).set q0 (ad, .inl (cA, n, .inl (upd f i.toNatClampNeg x))) = wd σ') (d : decode cc pc = .ok (.iastore, 1)) (kk : k_J Γ R nL false wd (pc + 1) lv st σ') : k_J Γ R nL false wd pc lv (.int x :: .int i :: .ref ad :: st) σ :=
  fun H locs ls hP hF hl => va_iast G.1 G.2.1 G.2.2.2.2.2.1 hP (hD σ) hF q0 t0 ha ht hin d (fun H1 locs1 h1 _ h3 => kk H1 locs1 ls (hw ▸ h1) h3 hl)
theorem r_zast (G : k_G Γ nL own cc Ts tys) (hD : ∀ σ, va_D (k_wA wd) (wd σ)) (q0 t0 : Nat) {ad : Nat} {cA : ClassId} {n : Nat} {f : Nat → Int32} {i x : Int32} (ha : (wd σ)[q0]? = some (ad, .inl (cA, n, .inl f))) (ht : tys[t0]? = some (cA, .boolean)) (hin : vp_in i n) (hx : vp_nar .boolean x = x) (σ' : k_M) (hw : (wd σ).set q0 (ad, .inl (cA, n, .inl (upd f i.toNatClampNeg x))) = wd σ') (d : decode cc pc = .ok (.bastore, 1)) (kk : k_J Γ R nL false wd (pc + 1) lv st σ') : k_J Γ R nL false wd pc lv (.int x :: .int i :: .ref ad :: st) σ :=
  fun H locs ls hP hF hl => va_zast G.1 G.2.1 G.2.2.2.2.2.1 hP (hD σ) hF q0 t0 ha ht hin d (fun H1 locs1 h1 _ h3 => kk H1 locs1 ls (hw ▸ (hx ▸ h1)) h3 hl)
theorem r_lookup (G : k_G Γ nL own cc Ts tys) {dflt : Int} {ps : Array (Int × Int)} {len : Nat} {x : Int32} {off : Int} (tgt : Nat) (d : decode cc pc = .ok (.lookupswitch dflt ps, len)) (hp : (ps.toList.zip (ps.toList.drop 1)).all (fun (a, next) => a.1 < next.1) = true) (ho : Op.lookupswitch.offset ps.toList dflt x.toInt = off) (ht : (pc : Int) + off = (tgt : Int)) (k : k_J Γ R nL rd wd tgt lv st σ) : k_J Γ R nL rd wd pc lv (.int x :: st) σ := fun H locs ls hP hF hl => lv_lookup G.1 G.2.1 d hp ho ht (k H locs ls hP hF hl)
theorem r_tableOut (G : k_G Γ nL own cc Ts tys) {dflt lo hi : Int} {offs : Array Int} {len : Nat} {x : Int32} (tgt : Nat) (d : decode cc pc = .ok (.tableswitch dflt lo hi offs, len)) (h : x.toInt < lo ∨ hi < x.toInt) (ht : (pc : Int) + dflt = (tgt : Int)) (k : k_J Γ R nL rd wd tgt lv st σ) : k_J Γ R nL rd wd pc lv (.int x :: st) σ := fun H locs ls hP hF hl => lv_tableOut G.1 G.2.1 d h ht (k H locs ls hP hF hl)
theorem r_tableIn (G : k_G Γ nL own cc Ts tys) {dflt lo hi : Int} {offs : Array Int} {len : Nat} {x : Int32} {off : Int} (tgt : Nat) (d : decode cc pc = .ok (.tableswitch dflt lo hi offs, len)) (z : Int) (hz : x.toInt = z) (h1 : ¬ z < lo) (h2 : ¬ hi < z) (ho : offs[(z - lo).toNat]? = some off) (ht : (pc : Int) + off = (tgt : Int)) (k : k_J Γ R nL rd wd tgt lv st σ) : k_J Γ R nL rd wd pc lv (.int x :: st) σ := fun H locs ls hP hF hl => lv_tableIn G.1 G.2.1 d (by rw [hz]; exact h1) (by rw [hz]; exact h2) (by rw [hz]; exact ho) ht (k H locs ls hP hF hl)
/-- contracts: what a reader, a writer asks of its start -/
def k_PR (D : va_G) (tys : List (ClassId × FieldType)) (wd : k_M → va_W) (σ : k_M) (av : List Value) : Array Value → State → Prop := va_Pc av (fun U => va_P D vwCl (wd σ) U.heap ∧ va_K D vwCl tys U ∧ k_N U)
def k_PW (D : va_G) (tys : List (ClassId × FieldType)) (wd : k_M → va_W) (σ : k_M) (av : List Value) : Array Value → State → Prop := va_Pc av (fun U => va_P D vwCl (wd σ) U.heap ∧ va_K D vwCl tys U ∧ k_N U ∧ ∀ σ, va_D (fun _ => True) (wd σ))
def k_Qi (D : va_G) (wd : k_M → va_W) (Q : Int32 → k_M → Prop) : Array Value → State → Outcome → State → Prop := fun _ s0 oc t => ∃ (r : Int32) (σ' : k_M), oc = .returned (some (.int r)) ∧ Q r σ' ∧ va_P D vwCl (wd σ') t.heap ∧ va_F (k_wA wd) s0 t
def k_Qv (D : va_G) (wd : k_M → va_W) (Q : k_M → Prop) : Array Value → State → Outcome → State → Prop := fun _ s0 oc t => ∃ (σ' : k_M), oc = .returned none ∧ Q σ' ∧ va_P D vwCl (wd σ') t.heap ∧ va_F (k_wA wd) s0 t
theorem k_PR_blind {D : va_G} {tys : List (ClassId × FieldType)} {wd : k_M → va_W} {σ : k_M} {av : List Value} : FrameBlind (k_PR D tys wd σ av) := fun a U g mk q => by
  obtain ⟨q0, qP, qK, qN⟩ := q
  exact ⟨q0, qP, va_K.moved (u := U) (U := U.calling g mk a) (Vm.Alike.refl U.vm) qK, k_N.same (s := U) (U := U.calling g mk a) rfl qN⟩
theorem k_PW_blind {D : va_G} {tys : List (ClassId × FieldType)} {wd : k_M → va_W} {σ : k_M} {av : List Value} : FrameBlind (k_PW D tys wd σ av) := fun a U g mk q => by
  obtain ⟨q0, qP, qK, qN, qD⟩ := q
  exact ⟨q0, qP, va_K.moved (u := U) (U := U.calling g mk a) (Vm.Alike.refl U.vm) qK, k_N.same (s := U) (U := U.calling g mk a) rfl qN, qD⟩
/-- the ends -/
def k_ER (Γ : k_C) (Q' : Int32 → Prop) (ret : Option FieldType) : Prop := k_Q Γ = MQ (k_be Γ) (vp_Si Q') (k_ar Γ) (k_s Γ) 0 0 (fun _ => False) ∧ (k_me Γ).sig.returnType = ret ∧ (k_me Γ).locks = false
def k_EW (Γ : k_C) (wd : k_M → va_W) (Qc : Array Value → State → Outcome → State → Prop) (ret : Option FieldType) : Prop := k_Q Γ = MQ (k_be Γ) Qc (k_ar Γ) (k_s Γ) 0 0 (k_wA wd) ∧ (k_me Γ).sig.returnType = ret ∧ (k_me Γ).locks = false
theorem r_iretR (G : k_G Γ nL own cc Ts tys) {Q' : Int32 → Prop} (E : k_ER Γ Q' (some .int)) {v : Int32} (d : decode cc pc = .ok (.ireturn, 1)) (h : Q' v) : k_J Γ R nL true wd pc lv [.int v] σ := by
  intro H locs ls hP hF hl
  obtain ⟨hQ, hr, hlk⟩ := E
  obtain ⟨rfl, rfl⟩ := hF
  rw [hQ]
  exact W.iret G.1 G.2.1 hr (fun t ht hW => ⟨v, rfl, h, ht⟩) (fun q hq => by cases hq) d hlk
theorem r_zretR (G : k_G Γ nL own cc Ts tys) {Q' : Int32 → Prop} (E : k_ER Γ Q' (some .boolean)) {v : Int32} (hn : narrow .boolean (.int v) = .int v) (d : decode cc pc = .ok (.ireturn, 1)) (h : Q' v) : k_J Γ R nL true wd pc lv [.int v] σ := by
  intro H locs ls hP hF hl
  obtain ⟨hQ, hr, hlk⟩ := E
  obtain ⟨rfl, rfl⟩ := hF
  rw [hQ]
  exact W.zret G.1 G.2.1 hr hn (fun t ht hW => ⟨v, rfl, h, ht⟩) (fun q hq => by cases hq) d hlk
theorem r_iretW (G : k_G Γ nL own cc Ts tys) {Q' : Int32 → k_M → Prop} (E : k_EW Γ wd (k_Qi (k_D Γ) wd Q') (some .int)) {v : Int32} (d : decode cc pc = .ok (.ireturn, 1)) (h : Q' v σ) : k_J Γ R nL false wd pc lv [.int v] σ := by
  intro H locs ls hP hF hl
  obtain ⟨hQ, hr, hlk⟩ := E
  rw [hQ]
  exact W.iret G.1 G.2.1 hr (fun t ht hW => ⟨v, σ, rfl, h, by rw [ht]; exact hP, va_S.F hF ht⟩) hF.2.2 d hlk
theorem r_zretW (G : k_G Γ nL own cc Ts tys) {Q' : Int32 → k_M → Prop} (E : k_EW Γ wd (k_Qi (k_D Γ) wd Q') (some .boolean)) {v : Int32} (hn : narrow .boolean (.int v) = .int v) (d : decode cc pc = .ok (.ireturn, 1)) (h : Q' v σ) : k_J Γ R nL false wd pc lv [.int v] σ := by
  intro H locs ls hP hF hl
  obtain ⟨hQ, hr, hlk⟩ := E
  rw [hQ]
  exact W.zret G.1 G.2.1 hr hn (fun t ht hW => ⟨v, σ, rfl, h, by rw [ht]; exact hP, va_S.F hF ht⟩) hF.2.2 d hlk
theorem r_vretW (G : k_G Γ nL own cc Ts tys) {Q' : k_M → Prop} (E : k_EW Γ wd (k_Qv (k_D Γ) wd Q') none) (d : decode cc pc = .ok (.return_, 1)) (h : Q' σ) : k_J Γ R nL false wd pc lv [] σ := by
  intro H locs ls hP hF hl
  obtain ⟨hQ, hr, hlk⟩ := E
  rw [hQ]
  exact W.vret G.1 G.2.1 hr (fun t ht hW => ⟨σ, rfl, h, by rw [ht]; exact hP, va_S.F hF ht⟩) hF.2.2 d hlk
/-- calls of readers: the heap stays -/
theorem k_PR_S (G : k_G Γ nL own cc Ts tys) {wd' : k_M → va_W} {σ' : k_M} {H : Heap} {tys' : List (ClassId × FieldType)} {av : List Value} (ts : List Nat) (hts : ts.filterMap (fun i => tys[i]?) = tys') (hP : va_P (k_D Γ) vwCl (wd' σ') H) : PreS (k_s Γ) H (k_PR (k_D Γ) tys' wd' σ' av) av :=
  ⟨k_PR_blind, fun U hU hW => ⟨rfl, by rw [hU]; exact hP, va_K.moved hW.alike (G.2.2.2.2.2.1.sub ts hts), k_N.warm hW G.2.2.2.2.2.2⟩⟩
theorem k_PW_S (G : k_G Γ nL own cc Ts tys) {wd' : k_M → va_W} {σ' : k_M} {H : Heap} {tys' : List (ClassId × FieldType)} {av : List Value} (hD : ∀ σ, va_D (k_wA wd') (wd' σ)) (ts : List Nat) (hts : ts.filterMap (fun i => tys[i]?) = tys') (hP : va_P (k_D Γ) vwCl (wd' σ') H) : PreS (k_s Γ) H (k_PW (k_D Γ) tys' wd' σ' av) av :=
  ⟨k_PW_blind, fun U hU hW => ⟨rfl, by rw [hU]; exact hP, va_K.moved hW.alike (G.2.2.2.2.2.1.sub ts hts), k_N.warm hW G.2.2.2.2.2.2, fun σ => (hD σ).weaken (fun _ _ _ _ => trivial)⟩⟩
theorem r_cR {rest : List Value} {Q' : Int32 → Prop} {a : Array Value}
    (hr : ∀ (H : Heap) (locs : List Loc) (ls : Array Slot), va_P (k_D Γ) vwCl (wd σ) H → lv_has ls nL lv → CallRun (k_p Γ) (k_l Γ) (k_e Γ) R (k_s Γ) (k_m Γ) (k_ar Γ) (k_be Γ) (k_me Γ) (k_c Γ) H locs 0 0 0 0 (F0 (k_m Γ) pc ls st) rest (vp_Si Q' a) (fun _ => False))
    (k : ∀ r, Q' r → k_J Γ R nL rd wd (pc + 3) lv (.int r :: rest) σ) : k_J Γ R nL rd wd pc lv st σ :=
  fun H locs ls hP hF hl => vp_callSi (hr H locs ls hP hl) (fun r hq => k r hq H locs ls hP hF hl)
/-- a reader, static -/
theorem r_cSR (G : k_G Γ nL own cc Ts tys) {y : MethodName} {bytes : ByteArray} {maxL n index : Nat} {ret : Option FieldType} {ws : List Cond} {rm : Room} {wd' : k_M → va_W} {σ' : k_M} {tys' : List (ClassId × FieldType)} {Q' : Int32 → Prop} (As rest : List Value)
    (hM : Met (k_l Γ) y ws rm (k_PR (k_D Γ) tys' wd' σ' As) (vp_Si Q') 0 0 (fun _ => False)) (cw : CallB R (k_s Γ) (k_ar Γ) own index y bytes maxL ret ws rm 0 0 n ∧ (Cond.static y).before (k_ar Γ) (k_s Γ) = true) (ts : List Nat) (hts : ts.filterMap (fun i => tys[i]?) = tys') (hsub : ∀ H, va_P (k_D Γ) vwCl (wd σ) H → va_P (k_D Γ) vwCl (wd' σ') H)
    (hn : As.length = n) (hst : st = As.reverse ++ rest) (hrm : (rest.map fun v => v.category).sum ≤ 8) (d : decode cc pc = .ok (.invokestatic index, 3)) (k : ∀ r, Q' r → k_J Γ R nL rd wd (pc + 3) lv (.int r :: rest) σ) : k_J Γ R nL rd wd pc lv st σ :=
  r_cR (a := As.toArray) (fun H locs ls hP hl => W.runS ⟨G.1, G.2.1, G.2.2.1, G.2.2.2.1, G.2.2.2.2.1⟩ hM cw (k_PR_S G ts hts (hsub H hP)) rfl hn hl.1 hst (lv_room (rest := st) hrm) d ⟨Nat.zero_le _, Nat.zero_le _⟩) k
/-- a reader, static, a nest mate's private one -/
theorem r_cSNR (G : k_G Γ nL own cc Ts tys) {y : MethodName} {bytes : ByteArray} {maxL n index : Nat} {ret : Option FieldType} {ws : List Cond} {rm : Room} {host : String} {wd' : k_M → va_W} {σ' : k_M} {tys' : List (ClassId × FieldType)} {Q' : Int32 → Prop} (As rest : List Value)
    (hM : Met (k_l Γ) y ws rm (k_PR (k_D Γ) tys' wd' σ' As) (vp_Si Q') 0 0 (fun _ => False)) (cw : va_CN R (k_s Γ) (k_ar Γ) own index y host bytes maxL ret ws rm 0 0 n ∧ (Cond.static y).before (k_ar Γ) (k_s Γ) = true ∧ True) (ts : List Nat) (hts : ts.filterMap (fun i => tys[i]?) = tys') (hsub : ∀ H, va_P (k_D Γ) vwCl (wd σ) H → va_P (k_D Γ) vwCl (wd' σ') H)
    (hn : As.length = n) (hst : st = As.reverse ++ rest) (hrm : (rest.map fun v => v.category).sum ≤ 8) (d : decode cc pc = .ok (.invokestatic index, 3)) (k : ∀ r, Q' r → k_J Γ R nL rd wd (pc + 3) lv (.int r :: rest) σ) : k_J Γ R nL rd wd pc lv st σ :=
  r_cR (a := As.toArray) (fun H locs ls hP hl => by
    have h := va_runSN (H := H) (locs := locs) (cells := 0) (slots := 0) (g := F0 (k_m Γ) pc ls st) (rest := rest) (p := k_p Γ) (e := k_e Γ) (below := k_be Γ) (meth := k_me Γ) ⟨G.1, G.2.1, G.2.2.1, G.2.2.2.1, G.2.2.2.2.1⟩ hM cw (k_PR_S G ts hts (hsub H hP)) rfl hn hl.1 hst (lv_room (rest := st) hrm) d ⟨Nat.zero_le _, Nat.zero_le _⟩
    intro T hT X
    obtain ⟨v, st₀, t, T', L, h0, X', hL, e1, -, hq, hs⟩ := h T hT X
    exact ⟨v, st₀, t, T', L, h0, X', hL, e1, hq, hs⟩) k
/-- a reader, of an object -/
theorem r_cVR (G : k_G Γ nL own cc Ts tys) {y : MethodName} {bytes : ByteArray} {maxL n index : Nat} {ret : Option FieldType} {ws : List Cond} {rm : Room} {wd' : k_M → va_W} {σ' : k_M} {tys' : List (ClassId × FieldType)} {Q' : Int32 → Prop} {b ci : Nat} {fs : List Value} {cq : vw_C} (As rest : List Value)
    (hM : Met (k_l Γ) y ws rm (k_PR (k_D Γ) tys' wd' σ' (.ref b :: As)) (vp_Si Q') 0 0 (fun _ => False)) (q0 : Nat) (hc : vwCl[ci]? = some cq) (he : (wd σ)[q0]? = some (b, .inr (ci, fs))) (cw : CallW R (k_s Γ) (k_ar Γ) own cq.1 index y bytes maxL ret ws rm 0 0 n) (ts : List Nat) (hts : ts.filterMap (fun i => tys[i]?) = tys') (hsub : ∀ H, va_P (k_D Γ) vwCl (wd σ) H → va_P (k_D Γ) vwCl (wd' σ') H)
    (hn : As.length = n) (hst : st = As.reverse ++ .ref b :: rest) (hrm : (rest.map fun v => v.category).sum ≤ 8) (d : decode cc pc = .ok (.invokevirtual index, 3)) (k : ∀ r, Q' r → k_J Γ R nL rd wd (pc + 3) lv (.int r :: rest) σ) : k_J Γ R nL rd wd pc lv st σ :=
  r_cR (a := (Value.ref b :: As).toArray) (fun H locs ls hP hl => W.runV ⟨G.1, G.2.1, G.2.2.1, G.2.2.2.1, G.2.2.2.2.1⟩ hM cw ⟨k_PR_blind, va_recv G.2.2.2.2.2.1 hP hc he, (k_PR_S G ts hts (hsub H hP)).2⟩ rfl hn hl.1 hst (lv_room (rest := st) hrm) d ⟨Nat.zero_le _, Nat.zero_le _⟩) k
/-- calls of writers of the same world -/
theorem k_Sjoin {A : Nat → Prop} {H0 H H1 : Heap} {locs L : List Loc} (hS : va_S A H0 H locs) (hz : H.size ≤ H1.size) (hk : ∀ q : Nat, q < H.size → ¬ A q → H1[q]? = H[q]?) (hL : ∀ q ∈ L, A q.base) : va_S A H0 H1 (locs ++ L) :=
  ⟨Nat.le_trans hS.1 hz, fun q h1 h2 => (hk q (Nat.lt_of_lt_of_le h1 hS.1) h2).trans (hS.2.1 q h1 h2), fun q hq => (List.mem_append.mp hq).elim (hS.2.2 q) (hL q)⟩
theorem r_cWi {rest : List Value} {Q' : Int32 → k_M → Prop} {a : Array Value}
    (hr : ∀ (H : Heap) (locs : List Loc) (ls : Array Slot), va_P (k_D Γ) vwCl (wd σ) H → lv_has ls nL lv → CallRun (k_p Γ) (k_l Γ) (k_e Γ) R (k_s Γ) (k_m Γ) (k_ar Γ) (k_be Γ) (k_me Γ) (k_c Γ) H locs 0 0 0 0 (F0 (k_m Γ) pc ls st) rest (k_Qi (k_D Γ) wd Q' a) (k_wA wd))
    (k : ∀ r σ', Q' r σ' → k_J Γ R nL false wd (pc + 3) lv (.int r :: rest) σ') : k_J Γ R nL false wd pc lv st σ := by
  intro H locs ls hP hF hl T hT X
  obtain ⟨v, st₀, t, T', L, h0, X', hL, e1, ⟨r, σ', hv, hq, hp, hz, hk⟩, hs⟩ := hr H locs ls hP hl T hT X
  cases hv
  rw [h0] at hz hk
  obtain ⟨t2, a1, b1⟩ := k r σ' hq T'.heap (locs ++ L) ls (by rw [e1]; exact hp) (k_Sjoin hF (by rw [e1]; exact hz) (fun q h1 h2 => by rw [e1]; exact hk q h1 h2) hL) hl T' rfl X'
  exact ⟨t2, hs t2 a1, b1⟩
theorem r_cWv {rest : List Value} {Q' : k_M → Prop} {a : Array Value}
    (hr : ∀ (H : Heap) (locs : List Loc) (ls : Array Slot), va_P (k_D Γ) vwCl (wd σ) H → lv_has ls nL lv → CallRun (k_p Γ) (k_l Γ) (k_e Γ) R (k_s Γ) (k_m Γ) (k_ar Γ) (k_be Γ) (k_me Γ) (k_c Γ) H locs 0 0 0 0 (F0 (k_m Γ) pc ls st) rest (k_Qv (k_D Γ) wd Q' a) (k_wA wd))
    (k : ∀ σ', Q' σ' → k_J Γ R nL false wd (pc + 3) lv rest σ') : k_J Γ R nL false wd pc lv st σ := by
  intro H locs ls hP hF hl T hT X
  obtain ⟨v, st₀, t, T', L, h0, X', hL, e1, ⟨σ', hv, hq, hp, hz, hk⟩, hs⟩ := hr H locs ls hP hl T hT X
  cases hv
  rw [h0] at hz hk
  obtain ⟨t2, a1, b1⟩ := k σ' hq T'.heap (locs ++ L) ls (by rw [e1]; exact hp) (k_Sjoin hF (by rw [e1]; exact hz) (fun q h1 h2 => by rw [e1]; exact hk q h1 h2) hL) hl T' rfl X'
  exact ⟨t2, hs t2 a1, b1⟩
theorem r_cVWi (G : k_G Γ nL own cc Ts tys) (hD : ∀ σ, va_D (k_wA wd) (wd σ)) {y : MethodName} {bytes : ByteArray} {maxL n index : Nat} {ret : Option FieldType} {ws : List Cond} {rm : Room} {tys' : List (ClassId × FieldType)} {Q' : Int32 → k_M → Prop} {b ci : Nat} {fs : List Value} {cq : vw_C} (As rest : List Value)
    (hM : Met (k_l Γ) y ws rm (k_PW (k_D Γ) tys' wd σ (.ref b :: As)) (k_Qi (k_D Γ) wd Q') 0 0 (k_wA wd)) (q0 : Nat) (hc : vwCl[ci]? = some cq) (he : (wd σ)[q0]? = some (b, .inr (ci, fs))) (cw : CallW R (k_s Γ) (k_ar Γ) own cq.1 index y bytes maxL ret ws rm 0 0 n) (ts : List Nat) (hts : ts.filterMap (fun i => tys[i]?) = tys')
    (hn : As.length = n) (hst : st = As.reverse ++ .ref b :: rest) (hrm : (rest.map fun v => v.category).sum ≤ 8) (d : decode cc pc = .ok (.invokevirtual index, 3)) (k : ∀ r σ', Q' r σ' → k_J Γ R nL false wd (pc + 3) lv (.int r :: rest) σ') : k_J Γ R nL false wd pc lv st σ :=
  r_cWi (a := (Value.ref b :: As).toArray) (fun H locs ls hP hl => W.runV ⟨G.1, G.2.1, G.2.2.1, G.2.2.2.1, G.2.2.2.2.1⟩ hM cw ⟨k_PW_blind, va_recv G.2.2.2.2.2.1 hP hc he, (k_PW_S G hD ts hts hP).2⟩ rfl hn hl.1 hst (lv_room (rest := st) hrm) d ⟨Nat.zero_le _, Nat.zero_le _⟩) k
theorem r_cVWv (G : k_G Γ nL own cc Ts tys) (hD : ∀ σ, va_D (k_wA wd) (wd σ)) {y : MethodName} {bytes : ByteArray} {maxL n index : Nat} {ret : Option FieldType} {ws : List Cond} {rm : Room} {tys' : List (ClassId × FieldType)} {Q' : k_M → Prop} {b ci : Nat} {fs : List Value} {cq : vw_C} (As rest : List Value)
    (hM : Met (k_l Γ) y ws rm (k_PW (k_D Γ) tys' wd σ (.ref b :: As)) (k_Qv (k_D Γ) wd Q') 0 0 (k_wA wd)) (q0 : Nat) (hc : vwCl[ci]? = some cq) (he : (wd σ)[q0]? = some (b, .inr (ci, fs))) (cw : CallW R (k_s Γ) (k_ar Γ) own cq.1 index y bytes maxL ret ws rm 0 0 n) (ts : List Nat) (hts : ts.filterMap (fun i => tys[i]?) = tys')
    (hn : As.length = n) (hst : st = As.reverse ++ .ref b :: rest) (hrm : (rest.map fun v => v.category).sum ≤ 8) (d : decode cc pc = .ok (.invokevirtual index, 3)) (k : ∀ σ', Q' σ' → k_J Γ R nL false wd (pc + 3) lv rest σ') : k_J Γ R nL false wd pc lv st σ :=
  r_cWv (a := (Value.ref b :: As).toArray) (fun H locs ls hP hl => W.runV ⟨G.1, G.2.1, G.2.2.1, G.2.2.2.1, G.2.2.2.2.1⟩ hM cw ⟨k_PW_blind, va_recv G.2.2.2.2.2.1 hP hc he, (k_PW_S G hD ts hts hP).2⟩ rfl hn hl.1 hst (lv_room (rest := st) hrm) d ⟨Nat.zero_le _, Nat.zero_le _⟩) k
theorem r_cSWv (G : k_G Γ nL own cc Ts tys) (hD : ∀ σ, va_D (k_wA wd) (wd σ)) {y : MethodName} {bytes : ByteArray} {maxL n index : Nat} {ret : Option FieldType} {ws : List Cond} {rm : Room} {tys' : List (ClassId × FieldType)} {Q' : k_M → Prop} (As rest : List Value)
    (hM : Met (k_l Γ) y ws rm (k_PW (k_D Γ) tys' wd σ As) (k_Qv (k_D Γ) wd Q') 0 0 (k_wA wd)) (cw : CallB R (k_s Γ) (k_ar Γ) own index y bytes maxL ret ws rm 0 0 n ∧ (Cond.static y).before (k_ar Γ) (k_s Γ) = true) (ts : List Nat) (hts : ts.filterMap (fun i => tys[i]?) = tys')
    (hn : As.length = n) (hst : st = As.reverse ++ rest) (hrm : (rest.map fun v => v.category).sum ≤ 8) (d : decode cc pc = .ok (.invokestatic index, 3)) (k : ∀ σ', Q' σ' → k_J Γ R nL false wd (pc + 3) lv rest σ') : k_J Γ R nL false wd pc lv st σ :=
  r_cWv (a := As.toArray) (fun H locs ls hP hl => W.runS ⟨G.1, G.2.1, G.2.2.1, G.2.2.2.1, G.2.2.2.2.1⟩ hM cw (k_PW_S G hD ts hts hP) rfl hn hl.1 hst (lv_room (rest := st) hrm) d ⟨Nat.zero_le _, Nat.zero_le _⟩) k
end KR
/-- a method's contract out of its walk -/
theorem k_metR {l : Launch} {y : MethodName} {ws ws' : List Cond} {rm : Room} {cc : ByteArray} {maxL : Nat} {ret : Option FieldType} {D : va_G} {tys : List (ClassId × FieldType)} {wd : k_M → va_W} {σ : k_M} {av : List Value} {Q' : Int32 → Prop}
    (hy : plainName y.cls = true) (hw : ws = Cond.code y cc maxL ret :: ws') (hav : (lg_sl av).length ≤ maxL) (body : ∀ Γ : k_C, k_G Γ maxL y.cls cc ws tys → k_ER Γ Q' ret → k_J Γ rm maxL true wd 0 (lv_args 0 av) [] σ) : Met l y ws rm (k_PR D tys wd σ av) (vp_Si Q') 0 0 (fun _ => False) := by
  refine Met.ofW (cc := cc) (maxL := maxL) (ret := ret) hy hw ?_
  intro p e s m args below meth c s₁ B hml hv
  obtain ⟨rfl, hP, hK, hN⟩ := hv
  have hts := atoms_spec (ws := ws) B.pre
  have hl := lv_entry av (n := maxL) hav
  rw [lg_entry_eq]
  exact body (p, l, e, s, m, av.toArray, below, meth, c, MQ below (vp_Si Q') av.toArray s 0 0 (fun _ => False), D) ⟨B.exec, B.bytes, hml, findClass_of_methodNamed B.named, hts, hK, hN⟩ ⟨rfl, B.returns, B.notSynchronized⟩ s.heap [] _ hP ⟨rfl, rfl⟩ hl
theorem k_metW {l : Launch} {y : MethodName} {ws ws' : List Cond} {rm : Room} {cc : ByteArray} {maxL : Nat} {ret : Option FieldType} {D : va_G} {tys : List (ClassId × FieldType)} {wd : k_M → va_W} {σ : k_M} {av : List Value} {Qc : va_G → Array Value → State → Outcome → State → Prop}
    (hy : plainName y.cls = true) (hw : ws = Cond.code y cc maxL ret :: ws') (hav : (lg_sl av).length ≤ maxL) (body : ∀ Γ : k_C, k_G Γ maxL y.cls cc ws tys → (∀ σ, va_D (k_wA wd) (wd σ)) → k_EW Γ wd (Qc (k_D Γ)) ret → k_J Γ rm maxL false wd 0 (lv_args 0 av) [] σ) : Met l y ws rm (k_PW D tys wd σ av) (Qc D) 0 0 (k_wA wd) := by
  refine Met.ofW (cc := cc) (maxL := maxL) (ret := ret) hy hw ?_
  intro p e s m args below meth c s₁ B hml hv
  obtain ⟨rfl, hP, hK, hN, hD⟩ := hv
  have hts := atoms_spec (ws := ws) B.pre
  have hl := lv_entry av (n := maxL) hav
  rw [lg_entry_eq]
  exact body (p, l, e, s, m, av.toArray, below, meth, c, MQ below (Qc D) av.toArray s 0 0 (k_wA wd), D) ⟨B.exec, B.bytes, hml, findClass_of_methodNamed B.named, hts, hK, hN⟩ (fun σ => ⟨(hD σ).1, fun k q h => ⟨σ, k, q.2, h⟩⟩) ⟨rfl, B.returns, B.notSynchronized⟩ s.heap [] _ hP va_S.rf hl
/-- loops: an invariant with a measure -/
def k_lp0 (body : Prop → Prop) : Prop := ∃ (I : Nat → Prop) (n : Nat), I n ∧ ∀ n, I n → body (∃ n', n' < n ∧ I n')
def k_lp1 {A1 : Type} (body : (A1 → Prop) → A1 → Prop) (x1 : A1) : Prop := ∃ (I : Nat → A1 → Prop) (n : Nat), I n x1 ∧ ∀ (n : Nat) (x1 : A1), I n x1 → body (fun (x1' : A1) => ∃ n', n' < n ∧ I n' x1') x1
def k_lp2 {A1 A2 : Type} (body : (A1 → A2 → Prop) → A1 → A2 → Prop) (x1 : A1) (x2 : A2) : Prop := ∃ (I : Nat → A1 → A2 → Prop) (n : Nat), I n x1 x2 ∧ ∀ (n : Nat) (x1 : A1) (x2 : A2), I n x1 x2 → body (fun (x1' : A1) (x2' : A2) => ∃ n', n' < n ∧ I n' x1' x2') x1 x2
def k_lp3 {A1 A2 A3 : Type} (body : (A1 → A2 → A3 → Prop) → A1 → A2 → A3 → Prop) (x1 : A1) (x2 : A2) (x3 : A3) : Prop := ∃ (I : Nat → A1 → A2 → A3 → Prop) (n : Nat), I n x1 x2 x3 ∧ ∀ (n : Nat) (x1 : A1) (x2 : A2) (x3 : A3), I n x1 x2 x3 → body (fun (x1' : A1) (x2' : A2) (x3' : A3) => ∃ n', n' < n ∧ I n' x1' x2' x3') x1 x2 x3
def k_lp4 {A1 A2 A3 A4 : Type} (body : (A1 → A2 → A3 → A4 → Prop) → A1 → A2 → A3 → A4 → Prop) (x1 : A1) (x2 : A2) (x3 : A3) (x4 : A4) : Prop := ∃ (I : Nat → A1 → A2 → A3 → A4 → Prop) (n : Nat), I n x1 x2 x3 x4 ∧ ∀ (n : Nat) (x1 : A1) (x2 : A2) (x3 : A3) (x4 : A4), I n x1 x2 x3 x4 → body (fun (x1' : A1) (x2' : A2) (x3' : A3) (x4' : A4) => ∃ n', n' < n ∧ I n' x1' x2' x3' x4') x1 x2 x3 x4
def k_lp5 {A1 A2 A3 A4 A5 : Type} (body : (A1 → A2 → A3 → A4 → A5 → Prop) → A1 → A2 → A3 → A4 → A5 → Prop) (x1 : A1) (x2 : A2) (x3 : A3) (x4 : A4) (x5 : A5) : Prop := ∃ (I : Nat → A1 → A2 → A3 → A4 → A5 → Prop) (n : Nat), I n x1 x2 x3 x4 x5 ∧ ∀ (n : Nat) (x1 : A1) (x2 : A2) (x3 : A3) (x4 : A4) (x5 : A5), I n x1 x2 x3 x4 x5 → body (fun (x1' : A1) (x2' : A2) (x3' : A3) (x4' : A4) (x5' : A5) => ∃ n', n' < n ∧ I n' x1' x2' x3' x4' x5') x1 x2 x3 x4 x5
def k_lp6 {A1 A2 A3 A4 A5 A6 : Type} (body : (A1 → A2 → A3 → A4 → A5 → A6 → Prop) → A1 → A2 → A3 → A4 → A5 → A6 → Prop) (x1 : A1) (x2 : A2) (x3 : A3) (x4 : A4) (x5 : A5) (x6 : A6) : Prop := ∃ (I : Nat → A1 → A2 → A3 → A4 → A5 → A6 → Prop) (n : Nat), I n x1 x2 x3 x4 x5 x6 ∧ ∀ (n : Nat) (x1 : A1) (x2 : A2) (x3 : A3) (x4 : A4) (x5 : A5) (x6 : A6), I n x1 x2 x3 x4 x5 x6 → body (fun (x1' : A1) (x2' : A2) (x3' : A3) (x4' : A4) (x5' : A5) (x6' : A6) => ∃ n', n' < n ∧ I n' x1' x2' x3' x4' x5' x6') x1 x2 x3 x4 x5 x6
def k_lp7 {A1 A2 A3 A4 A5 A6 A7 : Type} (body : (A1 → A2 → A3 → A4 → A5 → A6 → A7 → Prop) → A1 → A2 → A3 → A4 → A5 → A6 → A7 → Prop) (x1 : A1) (x2 : A2) (x3 : A3) (x4 : A4) (x5 : A5) (x6 : A6) (x7 : A7) : Prop := ∃ (I : Nat → A1 → A2 → A3 → A4 → A5 → A6 → A7 → Prop) (n : Nat), I n x1 x2 x3 x4 x5 x6 x7 ∧ ∀ (n : Nat) (x1 : A1) (x2 : A2) (x3 : A3) (x4 : A4) (x5 : A5) (x6 : A6) (x7 : A7), I n x1 x2 x3 x4 x5 x6 x7 → body (fun (x1' : A1) (x2' : A2) (x3' : A3) (x4' : A4) (x5' : A5) (x6' : A6) (x7' : A7) => ∃ n', n' < n ∧ I n' x1' x2' x3' x4' x5' x6' x7') x1 x2 x3 x4 x5 x6 x7
def k_lp8 {A1 A2 A3 A4 A5 A6 A7 A8 : Type} (body : (A1 → A2 → A3 → A4 → A5 → A6 → A7 → A8 → Prop) → A1 → A2 → A3 → A4 → A5 → A6 → A7 → A8 → Prop) (x1 : A1) (x2 : A2) (x3 : A3) (x4 : A4) (x5 : A5) (x6 : A6) (x7 : A7) (x8 : A8) : Prop := ∃ (I : Nat → A1 → A2 → A3 → A4 → A5 → A6 → A7 → A8 → Prop) (n : Nat), I n x1 x2 x3 x4 x5 x6 x7 x8 ∧ ∀ (n : Nat) (x1 : A1) (x2 : A2) (x3 : A3) (x4 : A4) (x5 : A5) (x6 : A6) (x7 : A7) (x8 : A8), I n x1 x2 x3 x4 x5 x6 x7 x8 → body (fun (x1' : A1) (x2' : A2) (x3' : A3) (x4' : A4) (x5' : A5) (x6' : A6) (x7' : A7) (x8' : A8) => ∃ n', n' < n ∧ I n' x1' x2' x3' x4' x5' x6' x7' x8') x1 x2 x3 x4 x5 x6 x7 x8
end
section
def wE : k_M → va_W := fun _ => []
def k_0 : k_M := fun _ _ => 0
theorem k_E0 {D : va_G} {σ : k_M} {H : Heap} : va_P D vwCl (wE σ) H := fun k q h => by simp [wE] at h
def wC (a : Nat → Nat) (cI cO : ClassId) (gI : Nat → Option Nat) : k_M → va_W := fun σ => [(a 0, .inr (4, [.ref (a 1), .ref (a 3), .ref (a 4), .ref (a 18)])), (a 1, .inr (3, [.ref (a 2), .int (σ 1 1)])), (a 2, .inl (cI, 10, .inl (σ 2))), (a 3, .inr (2, [.ref (a 4), .ref (a 14), .ref (a 15), .ref (a 16), .ref (a 17), .int (σ 3 5)])), (a 4, .inr (0, [.ref (a 5), .ref (a 6), .ref (a 7), .ref (a 8), .ref (a 9), .ref (a 10), .int (σ 4 6), .int (σ 4 7), .int (σ 4 8), .int (σ 4 9), .int (σ 4 10), .int (σ 4 11)])), (a 5, .inl (cI, 40, .inl (σ 5))), (a 6, .inl (cI, 40, .inl (σ 6))), (a 7, .inl (cI, 8, .inl (σ 7))), (a 8, .inl (cI, 5, .inl (σ 8))), (a 9, .inl (cI, 200, .inl (σ 9))), (a 10, .inr (1, [.ref (a 11), .ref (a 12), .ref (a 13), .int (σ 10 3)])), (a 11, .inl (cI, 24, .inl (σ 11))), (a 12, .inl (cI, 24, .inl (σ 12))), (a 13, .inl (cI, 24, .inl (σ 13))), (a 14, .inl (cI, 8, .inl (σ 14))), (a 15, .inl (cI, 40, .inl (σ 15))), (a 16, .inl (cI, 5, .inl (σ 16))), (a 17, .inl (cI, 8, .inl (σ 17))), (a 18, .inl (cO, 2, .inr (.inr (.inr (.inr gI)))))]
theorem wC_0 {a : Nat → Nat} {cI cO : ClassId} {gI : Nat → Option Nat} {σ : k_M} : ((wC a cI cO gI) σ)[0]? = some (a 0, .inr (4, [.ref (a 1), .ref (a 3), .ref (a 4), .ref (a 18)])) := rfl
theorem wC_1 {a : Nat → Nat} {cI cO : ClassId} {gI : Nat → Option Nat} {σ : k_M} : ((wC a cI cO gI) σ)[1]? = some (a 1, .inr (3, [.ref (a 2), .int (σ 1 1)])) := rfl
theorem wC_1_1 {a : Nat → Nat} {cI cO : ClassId} {gI : Nat → Option Nat} {σ : k_M} {v : Int32} : ((wC a cI cO gI) σ).set 1 (a 1, .inr (3, List.set [.ref (a 2), .int (σ 1 1)] 1 (.int v))) = (wC a cI cO gI) (k_put σ 1 1 v) := rfl
theorem wC_2 {a : Nat → Nat} {cI cO : ClassId} {gI : Nat → Option Nat} {σ : k_M} : ((wC a cI cO gI) σ)[2]? = some (a 2, .inl (cI, 10, .inl (σ 2))) := rfl
theorem wC_2_s {a : Nat → Nat} {cI cO : ClassId} {gI : Nat → Option Nat} {σ : k_M} {k : Nat} {v : Int32} : ((wC a cI cO gI) σ).set 2 (a 2, .inl (cI, 10, .inl (upd (σ 2) k v))) = (wC a cI cO gI) (k_put σ 2 k v) := rfl
theorem wC_3 {a : Nat → Nat} {cI cO : ClassId} {gI : Nat → Option Nat} {σ : k_M} : ((wC a cI cO gI) σ)[3]? = some (a 3, .inr (2, [.ref (a 4), .ref (a 14), .ref (a 15), .ref (a 16), .ref (a 17), .int (σ 3 5)])) := rfl
theorem wC_3_5 {a : Nat → Nat} {cI cO : ClassId} {gI : Nat → Option Nat} {σ : k_M} {v : Int32} : ((wC a cI cO gI) σ).set 3 (a 3, .inr (2, List.set [.ref (a 4), .ref (a 14), .ref (a 15), .ref (a 16), .ref (a 17), .int (σ 3 5)] 5 (.int v))) = (wC a cI cO gI) (k_put σ 3 5 v) := rfl
theorem wC_4 {a : Nat → Nat} {cI cO : ClassId} {gI : Nat → Option Nat} {σ : k_M} : ((wC a cI cO gI) σ)[4]? = some (a 4, .inr (0, [.ref (a 5), .ref (a 6), .ref (a 7), .ref (a 8), .ref (a 9), .ref (a 10), .int (σ 4 6), .int (σ 4 7), .int (σ 4 8), .int (σ 4 9), .int (σ 4 10), .int (σ 4 11)])) := rfl
theorem wC_4_6 {a : Nat → Nat} {cI cO : ClassId} {gI : Nat → Option Nat} {σ : k_M} {v : Int32} : ((wC a cI cO gI) σ).set 4 (a 4, .inr (0, List.set [.ref (a 5), .ref (a 6), .ref (a 7), .ref (a 8), .ref (a 9), .ref (a 10), .int (σ 4 6), .int (σ 4 7), .int (σ 4 8), .int (σ 4 9), .int (σ 4 10), .int (σ 4 11)] 6 (.int v))) = (wC a cI cO gI) (k_put σ 4 6 v) := rfl
theorem wC_4_7 {a : Nat → Nat} {cI cO : ClassId} {gI : Nat → Option Nat} {σ : k_M} {v : Int32} : ((wC a cI cO gI) σ).set 4 (a 4, .inr (0, List.set [.ref (a 5), .ref (a 6), .ref (a 7), .ref (a 8), .ref (a 9), .ref (a 10), .int (σ 4 6), .int (σ 4 7), .int (σ 4 8), .int (σ 4 9), .int (σ 4 10), .int (σ 4 11)] 7 (.int v))) = (wC a cI cO gI) (k_put σ 4 7 v) := rfl
theorem wC_4_8 {a : Nat → Nat} {cI cO : ClassId} {gI : Nat → Option Nat} {σ : k_M} {v : Int32} : ((wC a cI cO gI) σ).set 4 (a 4, .inr (0, List.set [.ref (a 5), .ref (a 6), .ref (a 7), .ref (a 8), .ref (a 9), .ref (a 10), .int (σ 4 6), .int (σ 4 7), .int (σ 4 8), .int (σ 4 9), .int (σ 4 10), .int (σ 4 11)] 8 (.int v))) = (wC a cI cO gI) (k_put σ 4 8 v) := rfl
theorem wC_4_9 {a : Nat → Nat} {cI cO : ClassId} {gI : Nat → Option Nat} {σ : k_M} {v : Int32} : ((wC a cI cO gI) σ).set 4 (a 4, .inr (0, List.set [.ref (a 5), .ref (a 6), .ref (a 7), .ref (a 8), .ref (a 9), .ref (a 10), .int (σ 4 6), .int (σ 4 7), .int (σ 4 8), .int (σ 4 9), .int (σ 4 10), .int (σ 4 11)] 9 (.int v))) = (wC a cI cO gI) (k_put σ 4 9 v) := rfl
theorem wC_4_10 {a : Nat → Nat} {cI cO : ClassId} {gI : Nat → Option Nat} {σ : k_M} {v : Int32} : ((wC a cI cO gI) σ).set 4 (a 4, .inr (0, List.set [.ref (a 5), .ref (a 6), .ref (a 7), .ref (a 8), .ref (a 9), .ref (a 10), .int (σ 4 6), .int (σ 4 7), .int (σ 4 8), .int (σ 4 9), .int (σ 4 10), .int (σ 4 11)] 10 (.int v))) = (wC a cI cO gI) (k_put σ 4 10 v) := rfl
theorem wC_4_11 {a : Nat → Nat} {cI cO : ClassId} {gI : Nat → Option Nat} {σ : k_M} {v : Int32} : ((wC a cI cO gI) σ).set 4 (a 4, .inr (0, List.set [.ref (a 5), .ref (a 6), .ref (a 7), .ref (a 8), .ref (a 9), .ref (a 10), .int (σ 4 6), .int (σ 4 7), .int (σ 4 8), .int (σ 4 9), .int (σ 4 10), .int (σ 4 11)] 11 (.int v))) = (wC a cI cO gI) (k_put σ 4 11 v) := rfl
theorem wC_5 {a : Nat → Nat} {cI cO : ClassId} {gI : Nat → Option Nat} {σ : k_M} : ((wC a cI cO gI) σ)[5]? = some (a 5, .inl (cI, 40, .inl (σ 5))) := rfl
theorem wC_5_s {a : Nat → Nat} {cI cO : ClassId} {gI : Nat → Option Nat} {σ : k_M} {k : Nat} {v : Int32} : ((wC a cI cO gI) σ).set 5 (a 5, .inl (cI, 40, .inl (upd (σ 5) k v))) = (wC a cI cO gI) (k_put σ 5 k v) := rfl
theorem wC_6 {a : Nat → Nat} {cI cO : ClassId} {gI : Nat → Option Nat} {σ : k_M} : ((wC a cI cO gI) σ)[6]? = some (a 6, .inl (cI, 40, .inl (σ 6))) := rfl
theorem wC_6_s {a : Nat → Nat} {cI cO : ClassId} {gI : Nat → Option Nat} {σ : k_M} {k : Nat} {v : Int32} : ((wC a cI cO gI) σ).set 6 (a 6, .inl (cI, 40, .inl (upd (σ 6) k v))) = (wC a cI cO gI) (k_put σ 6 k v) := rfl
theorem wC_7 {a : Nat → Nat} {cI cO : ClassId} {gI : Nat → Option Nat} {σ : k_M} : ((wC a cI cO gI) σ)[7]? = some (a 7, .inl (cI, 8, .inl (σ 7))) := rfl
theorem wC_7_s {a : Nat → Nat} {cI cO : ClassId} {gI : Nat → Option Nat} {σ : k_M} {k : Nat} {v : Int32} : ((wC a cI cO gI) σ).set 7 (a 7, .inl (cI, 8, .inl (upd (σ 7) k v))) = (wC a cI cO gI) (k_put σ 7 k v) := rfl
theorem wC_8 {a : Nat → Nat} {cI cO : ClassId} {gI : Nat → Option Nat} {σ : k_M} : ((wC a cI cO gI) σ)[8]? = some (a 8, .inl (cI, 5, .inl (σ 8))) := rfl
theorem wC_8_s {a : Nat → Nat} {cI cO : ClassId} {gI : Nat → Option Nat} {σ : k_M} {k : Nat} {v : Int32} : ((wC a cI cO gI) σ).set 8 (a 8, .inl (cI, 5, .inl (upd (σ 8) k v))) = (wC a cI cO gI) (k_put σ 8 k v) := rfl
theorem wC_9 {a : Nat → Nat} {cI cO : ClassId} {gI : Nat → Option Nat} {σ : k_M} : ((wC a cI cO gI) σ)[9]? = some (a 9, .inl (cI, 200, .inl (σ 9))) := rfl
theorem wC_9_s {a : Nat → Nat} {cI cO : ClassId} {gI : Nat → Option Nat} {σ : k_M} {k : Nat} {v : Int32} : ((wC a cI cO gI) σ).set 9 (a 9, .inl (cI, 200, .inl (upd (σ 9) k v))) = (wC a cI cO gI) (k_put σ 9 k v) := rfl
theorem wC_10 {a : Nat → Nat} {cI cO : ClassId} {gI : Nat → Option Nat} {σ : k_M} : ((wC a cI cO gI) σ)[10]? = some (a 10, .inr (1, [.ref (a 11), .ref (a 12), .ref (a 13), .int (σ 10 3)])) := rfl
theorem wC_10_3 {a : Nat → Nat} {cI cO : ClassId} {gI : Nat → Option Nat} {σ : k_M} {v : Int32} : ((wC a cI cO gI) σ).set 10 (a 10, .inr (1, List.set [.ref (a 11), .ref (a 12), .ref (a 13), .int (σ 10 3)] 3 (.int v))) = (wC a cI cO gI) (k_put σ 10 3 v) := rfl
theorem wC_11 {a : Nat → Nat} {cI cO : ClassId} {gI : Nat → Option Nat} {σ : k_M} : ((wC a cI cO gI) σ)[11]? = some (a 11, .inl (cI, 24, .inl (σ 11))) := rfl
theorem wC_11_s {a : Nat → Nat} {cI cO : ClassId} {gI : Nat → Option Nat} {σ : k_M} {k : Nat} {v : Int32} : ((wC a cI cO gI) σ).set 11 (a 11, .inl (cI, 24, .inl (upd (σ 11) k v))) = (wC a cI cO gI) (k_put σ 11 k v) := rfl
theorem wC_12 {a : Nat → Nat} {cI cO : ClassId} {gI : Nat → Option Nat} {σ : k_M} : ((wC a cI cO gI) σ)[12]? = some (a 12, .inl (cI, 24, .inl (σ 12))) := rfl
theorem wC_12_s {a : Nat → Nat} {cI cO : ClassId} {gI : Nat → Option Nat} {σ : k_M} {k : Nat} {v : Int32} : ((wC a cI cO gI) σ).set 12 (a 12, .inl (cI, 24, .inl (upd (σ 12) k v))) = (wC a cI cO gI) (k_put σ 12 k v) := rfl
theorem wC_13 {a : Nat → Nat} {cI cO : ClassId} {gI : Nat → Option Nat} {σ : k_M} : ((wC a cI cO gI) σ)[13]? = some (a 13, .inl (cI, 24, .inl (σ 13))) := rfl
theorem wC_13_s {a : Nat → Nat} {cI cO : ClassId} {gI : Nat → Option Nat} {σ : k_M} {k : Nat} {v : Int32} : ((wC a cI cO gI) σ).set 13 (a 13, .inl (cI, 24, .inl (upd (σ 13) k v))) = (wC a cI cO gI) (k_put σ 13 k v) := rfl
theorem wC_14 {a : Nat → Nat} {cI cO : ClassId} {gI : Nat → Option Nat} {σ : k_M} : ((wC a cI cO gI) σ)[14]? = some (a 14, .inl (cI, 8, .inl (σ 14))) := rfl
theorem wC_14_s {a : Nat → Nat} {cI cO : ClassId} {gI : Nat → Option Nat} {σ : k_M} {k : Nat} {v : Int32} : ((wC a cI cO gI) σ).set 14 (a 14, .inl (cI, 8, .inl (upd (σ 14) k v))) = (wC a cI cO gI) (k_put σ 14 k v) := rfl
theorem wC_15 {a : Nat → Nat} {cI cO : ClassId} {gI : Nat → Option Nat} {σ : k_M} : ((wC a cI cO gI) σ)[15]? = some (a 15, .inl (cI, 40, .inl (σ 15))) := rfl
theorem wC_15_s {a : Nat → Nat} {cI cO : ClassId} {gI : Nat → Option Nat} {σ : k_M} {k : Nat} {v : Int32} : ((wC a cI cO gI) σ).set 15 (a 15, .inl (cI, 40, .inl (upd (σ 15) k v))) = (wC a cI cO gI) (k_put σ 15 k v) := rfl
theorem wC_16 {a : Nat → Nat} {cI cO : ClassId} {gI : Nat → Option Nat} {σ : k_M} : ((wC a cI cO gI) σ)[16]? = some (a 16, .inl (cI, 5, .inl (σ 16))) := rfl
theorem wC_16_s {a : Nat → Nat} {cI cO : ClassId} {gI : Nat → Option Nat} {σ : k_M} {k : Nat} {v : Int32} : ((wC a cI cO gI) σ).set 16 (a 16, .inl (cI, 5, .inl (upd (σ 16) k v))) = (wC a cI cO gI) (k_put σ 16 k v) := rfl
theorem wC_17 {a : Nat → Nat} {cI cO : ClassId} {gI : Nat → Option Nat} {σ : k_M} : ((wC a cI cO gI) σ)[17]? = some (a 17, .inl (cI, 8, .inl (σ 17))) := rfl
theorem wC_17_s {a : Nat → Nat} {cI cO : ClassId} {gI : Nat → Option Nat} {σ : k_M} {k : Nat} {v : Int32} : ((wC a cI cO gI) σ).set 17 (a 17, .inl (cI, 8, .inl (upd (σ 17) k v))) = (wC a cI cO gI) (k_put σ 17 k v) := rfl
theorem wC_18 {a : Nat → Nat} {cI cO : ClassId} {gI : Nat → Option Nat} {σ : k_M} : ((wC a cI cO gI) σ)[18]? = some (a 18, .inl (cO, 2, .inr (.inr (.inr (.inr gI))))) := rfl
def wM (a : Nat → Nat) (cI cZ : ClassId) : k_M → va_W := fun σ => [(a 0, .inr (5, [.ref (a 1), .ref (a 2), .int (σ 0 2), .ref (a 3), .int (σ 0 4), .ref (a 4), .ref (a 5), .ref (a 6), .ref (a 7)])), (a 1, .inl (cI, 371, .inl (σ 1))), (a 2, .inl (cI, 10, .inl (σ 2))), (a 3, .inl (cI, 5, .inl (σ 3))), (a 4, .inl (cI, 8, .inl (σ 4))), (a 5, .inl (cI, 5, .inl (σ 5))), (a 6, .inl (cI, 742, .inl (σ 6))), (a 7, .inl (cZ, 2, .inl (σ 7)))]
theorem wM_0 {a : Nat → Nat} {cI cZ : ClassId} {σ : k_M} : ((wM a cI cZ) σ)[0]? = some (a 0, .inr (5, [.ref (a 1), .ref (a 2), .int (σ 0 2), .ref (a 3), .int (σ 0 4), .ref (a 4), .ref (a 5), .ref (a 6), .ref (a 7)])) := rfl
theorem wM_0_2 {a : Nat → Nat} {cI cZ : ClassId} {σ : k_M} {v : Int32} : ((wM a cI cZ) σ).set 0 (a 0, .inr (5, List.set [.ref (a 1), .ref (a 2), .int (σ 0 2), .ref (a 3), .int (σ 0 4), .ref (a 4), .ref (a 5), .ref (a 6), .ref (a 7)] 2 (.int v))) = (wM a cI cZ) (k_put σ 0 2 v) := rfl
theorem wM_0_4 {a : Nat → Nat} {cI cZ : ClassId} {σ : k_M} {v : Int32} : ((wM a cI cZ) σ).set 0 (a 0, .inr (5, List.set [.ref (a 1), .ref (a 2), .int (σ 0 2), .ref (a 3), .int (σ 0 4), .ref (a 4), .ref (a 5), .ref (a 6), .ref (a 7)] 4 (.int v))) = (wM a cI cZ) (k_put σ 0 4 v) := rfl
theorem wM_1 {a : Nat → Nat} {cI cZ : ClassId} {σ : k_M} : ((wM a cI cZ) σ)[1]? = some (a 1, .inl (cI, 371, .inl (σ 1))) := rfl
theorem wM_1_s {a : Nat → Nat} {cI cZ : ClassId} {σ : k_M} {k : Nat} {v : Int32} : ((wM a cI cZ) σ).set 1 (a 1, .inl (cI, 371, .inl (upd (σ 1) k v))) = (wM a cI cZ) (k_put σ 1 k v) := rfl
theorem wM_2 {a : Nat → Nat} {cI cZ : ClassId} {σ : k_M} : ((wM a cI cZ) σ)[2]? = some (a 2, .inl (cI, 10, .inl (σ 2))) := rfl
theorem wM_2_s {a : Nat → Nat} {cI cZ : ClassId} {σ : k_M} {k : Nat} {v : Int32} : ((wM a cI cZ) σ).set 2 (a 2, .inl (cI, 10, .inl (upd (σ 2) k v))) = (wM a cI cZ) (k_put σ 2 k v) := rfl
theorem wM_3 {a : Nat → Nat} {cI cZ : ClassId} {σ : k_M} : ((wM a cI cZ) σ)[3]? = some (a 3, .inl (cI, 5, .inl (σ 3))) := rfl
theorem wM_3_s {a : Nat → Nat} {cI cZ : ClassId} {σ : k_M} {k : Nat} {v : Int32} : ((wM a cI cZ) σ).set 3 (a 3, .inl (cI, 5, .inl (upd (σ 3) k v))) = (wM a cI cZ) (k_put σ 3 k v) := rfl
theorem wM_4 {a : Nat → Nat} {cI cZ : ClassId} {σ : k_M} : ((wM a cI cZ) σ)[4]? = some (a 4, .inl (cI, 8, .inl (σ 4))) := rfl
theorem wM_4_s {a : Nat → Nat} {cI cZ : ClassId} {σ : k_M} {k : Nat} {v : Int32} : ((wM a cI cZ) σ).set 4 (a 4, .inl (cI, 8, .inl (upd (σ 4) k v))) = (wM a cI cZ) (k_put σ 4 k v) := rfl
theorem wM_5 {a : Nat → Nat} {cI cZ : ClassId} {σ : k_M} : ((wM a cI cZ) σ)[5]? = some (a 5, .inl (cI, 5, .inl (σ 5))) := rfl
theorem wM_5_s {a : Nat → Nat} {cI cZ : ClassId} {σ : k_M} {k : Nat} {v : Int32} : ((wM a cI cZ) σ).set 5 (a 5, .inl (cI, 5, .inl (upd (σ 5) k v))) = (wM a cI cZ) (k_put σ 5 k v) := rfl
theorem wM_6 {a : Nat → Nat} {cI cZ : ClassId} {σ : k_M} : ((wM a cI cZ) σ)[6]? = some (a 6, .inl (cI, 742, .inl (σ 6))) := rfl
theorem wM_6_s {a : Nat → Nat} {cI cZ : ClassId} {σ : k_M} {k : Nat} {v : Int32} : ((wM a cI cZ) σ).set 6 (a 6, .inl (cI, 742, .inl (upd (σ 6) k v))) = (wM a cI cZ) (k_put σ 6 k v) := rfl
theorem wM_7 {a : Nat → Nat} {cI cZ : ClassId} {σ : k_M} : ((wM a cI cZ) σ)[7]? = some (a 7, .inl (cZ, 2, .inl (σ 7))) := rfl
theorem wM_7_s {a : Nat → Nat} {cI cZ : ClassId} {σ : k_M} {k : Nat} {v : Int32} : ((wM a cI cZ) σ).set 7 (a 7, .inl (cZ, 2, .inl (upd (σ 7) k v))) = (wM a cI cZ) (k_put σ 7 k v) := rfl
theorem kb_m7 : (Int8.ofInt (-7)).toInt32 = (-7 : Int32) := by decide
theorem kb_m6 : (Int8.ofInt (-6)).toInt32 = (-6 : Int32) := by decide
theorem kb_m5 : (Int8.ofInt (-5)).toInt32 = (-5 : Int32) := by decide
theorem kb_m4 : (Int8.ofInt (-4)).toInt32 = (-4 : Int32) := by decide
theorem kb_m3 : (Int8.ofInt (-3)).toInt32 = (-3 : Int32) := by decide
theorem kb_m2 : (Int8.ofInt (-2)).toInt32 = (-2 : Int32) := by decide
theorem kb_7 : (Int8.ofInt (7)).toInt32 = (7 : Int32) := by decide
theorem kb_8 : (Int8.ofInt (8)).toInt32 = (8 : Int32) := by decide
theorem kb_9 : (Int8.ofInt (9)).toInt32 = (9 : Int32) := by decide
theorem kb_10 : (Int8.ofInt (10)).toInt32 = (10 : Int32) := by decide
theorem kb_14 : (Int8.ofInt (14)).toInt32 = (14 : Int32) := by decide
theorem kb_15 : (Int8.ofInt (15)).toInt32 = (15 : Int32) := by decide
theorem kb_16 : (Int8.ofInt (16)).toInt32 = (16 : Int32) := by decide
theorem kb_21 : (Int8.ofInt (21)).toInt32 = (21 : Int32) := by decide
theorem kb_22 : (Int8.ofInt (22)).toInt32 = (22 : Int32) := by decide
theorem kb_23 : (Int8.ofInt (23)).toInt32 = (23 : Int32) := by decide
theorem kb_24 : (Int8.ofInt (24)).toInt32 = (24 : Int32) := by decide
theorem kb_33 : (Int8.ofInt (33)).toInt32 = (33 : Int32) := by decide
theorem kb_40 : (Int8.ofInt (40)).toInt32 = (40 : Int32) := by decide
theorem kb_47 : (Int8.ofInt (47)).toInt32 = (47 : Int32) := by decide
theorem kb_48 : (Int8.ofInt (48)).toInt32 = (48 : Int32) := by decide
theorem kb_63 : (Int8.ofInt (63)).toInt32 = (63 : Int32) := by decide
theorem kb_88 : (Int8.ofInt (88)).toInt32 = (88 : Int32) := by decide
theorem kb_89 : (Int8.ofInt (89)).toInt32 = (89 : Int32) := by decide
theorem kb_90 : (Int8.ofInt (90)).toInt32 = (90 : Int32) := by decide
theorem kb_95 : (Int8.ofInt (95)).toInt32 = (95 : Int32) := by decide
theorem kb_100 : (Int8.ofInt (100)).toInt32 = (100 : Int32) := by decide
theorem kb_102 : (Int8.ofInt (102)).toInt32 = (102 : Int32) := by decide
theorem kb_115 : (Int8.ofInt (115)).toInt32 = (115 : Int32) := by decide
theorem kb_116 : (Int8.ofInt (116)).toInt32 = (116 : Int32) := by decide
theorem kb_126 : (Int8.ofInt (126)).toInt32 = (126 : Int32) := by decide
theorem kc_m1 : Int32.ofInt (-1) = (-1 : Int32) := by decide
theorem kc_0 : Int32.ofInt (0) = (0 : Int32) := by decide
theorem kc_1 : Int32.ofInt (1) = (1 : Int32) := by decide
theorem kc_2 : Int32.ofInt (2) = (2 : Int32) := by decide
theorem kc_3 : Int32.ofInt (3) = (3 : Int32) := by decide
theorem kc_4 : Int32.ofInt (4) = (4 : Int32) := by decide
theorem kc_5 : Int32.ofInt (5) = (5 : Int32) := by decide
theorem ks_m255 : (Int16.ofInt (-255)).toInt32 = (-255 : Int32) := by decide
theorem ks_199 : (Int16.ofInt (199)).toInt32 = (199 : Int32) := by decide
theorem ks_200 : (Int16.ofInt (200)).toInt32 = (200 : Int32) := by decide
theorem ks_295 : (Int16.ofInt (295)).toInt32 = (295 : Int32) := by decide
theorem ks_367 : (Int16.ofInt (367)).toInt32 = (367 : Int32) := by decide
theorem ks_368 : (Int16.ofInt (368)).toInt32 = (368 : Int32) := by decide
theorem ks_369 : (Int16.ofInt (369)).toInt32 = (369 : Int32) := by decide
theorem ks_370 : (Int16.ofInt (370)).toInt32 = (370 : Int32) := by decide
theorem kne_23 : ¬ (23 : Int32) = 0 := by decide
theorem kne_47 : ¬ (47 : Int32) = 0 := by decide
theorem kt_0 : (0 : Int32).toInt = 0 := by decide
theorem kt_1 : (1 : Int32).toInt = 1 := by decide
theorem kt_2 : (2 : Int32).toInt = 2 := by decide
theorem kt_3 : (3 : Int32).toInt = 3 := by decide
theorem kt_4 : (4 : Int32).toInt = 4 := by decide
theorem kt_5 : (5 : Int32).toInt = 5 := by decide
theorem kt_6 : (6 : Int32).toInt = 6 := by decide
theorem kt_7 : (7 : Int32).toInt = 7 := by decide
theorem kt_98 : (98 : Int32).toInt = 98 := by decide
theorem kt_99 : (99 : Int32).toInt = 99 := by decide
theorem kt_100 : (100 : Int32).toInt = 100 := by decide
theorem kt_101 : (101 : Int32).toInt = 101 := by decide
theorem kt_102 : (102 : Int32).toInt = 102 := by decide
theorem kt_103 : (103 : Int32).toInt = 103 := by decide
theorem kt_104 : (104 : Int32).toInt = 104 := by decide
theorem kt_105 : (105 : Int32).toInt = 105 := by decide
theorem kt_106 : (106 : Int32).toInt = 106 := by decide
theorem kt_107 : (107 : Int32).toInt = 107 := by decide
theorem kt_108 : (108 : Int32).toInt = 108 := by decide
theorem kt_109 : (109 : Int32).toInt = 109 := by decide
theorem kt_110 : (110 : Int32).toInt = 110 := by decide
theorem kt_111 : (111 : Int32).toInt = 111 := by decide
theorem kt_112 : (112 : Int32).toInt = 112 := by decide
theorem kt_113 : (113 : Int32).toInt = 113 := by decide
theorem kt_114 : (114 : Int32).toInt = 114 := by decide
theorem kt_115 : (115 : Int32).toInt = 115 := by decide
theorem kt_116 : (116 : Int32).toInt = 116 := by decide
theorem kt_117 : (117 : Int32).toInt = 117 := by decide
theorem kt_118 : (118 : Int32).toInt = 118 := by decide
theorem kt_119 : (119 : Int32).toInt = 119 := by decide
theorem khit {x k : Int32} {z : Int} (h : x = k) (hk : k.toInt = z) : x.toInt = z := by rw [h, hk]
theorem kz_0 : narrow .boolean (.int 0) = .int 0 := by decide +kernel
theorem kz_1 : narrow .boolean (.int 1) = .int 1 := by decide +kernel
theorem kz_of {r : Int32} (h : r = 0 ∨ r = 1) : narrow .boolean (.int r) = .int r := by
  rcases h with rfl | rfl
  · exact kz_0
  · exact kz_1
theorem kzo_0 : (0 : Int32) = 0 ∨ (0 : Int32) = 1 := Or.inl rfl
theorem kzo_1 : (1 : Int32) = 0 ∨ (1 : Int32) = 1 := Or.inr rfl
end
section
abbrev rm_J6_bitCount_0f7a4 : Room := { frames := 0, cells := 0, slots := 0, locals := 0 }
def wp_J6_bitCount_0f7a4 (p0 : Int32) (Q : Int32 → Prop) : Prop :=
  Q ((((((((p0 - ((k_ushr p0 (1 : Int32)) &&& (1431655765 : Int32))) &&& (858993459 : Int32)) + ((k_ushr (p0 - ((k_ushr p0 (1 : Int32)) &&& (1431655765 : Int32))) (2 : Int32)) &&& (858993459 : Int32))) + (k_ushr (((p0 - ((k_ushr p0 (1 : Int32)) &&& (1431655765 : Int32))) &&& (858993459 : Int32)) + ((k_ushr (p0 - ((k_ushr p0 (1 : Int32)) &&& (1431655765 : Int32))) (2 : Int32)) &&& (858993459 : Int32))) (4 : Int32))) &&& (252645135 : Int32)) + (k_ushr (((((p0 - ((k_ushr p0 (1 : Int32)) &&& (1431655765 : Int32))) &&& (858993459 : Int32)) + ((k_ushr (p0 - ((k_ushr p0 (1 : Int32)) &&& (1431655765 : Int32))) (2 : Int32)) &&& (858993459 : Int32))) + (k_ushr (((p0 - ((k_ushr p0 (1 : Int32)) &&& (1431655765 : Int32))) &&& (858993459 : Int32)) + ((k_ushr (p0 - ((k_ushr p0 (1 : Int32)) &&& (1431655765 : Int32))) (2 : Int32)) &&& (858993459 : Int32))) (4 : Int32))) &&& (252645135 : Int32)) (8 : Int32))) + (k_ushr ((((((p0 - ((k_ushr p0 (1 : Int32)) &&& (1431655765 : Int32))) &&& (858993459 : Int32)) + ((k_ushr (p0 - ((k_ushr p0 (1 : Int32)) &&& (1431655765 : Int32))) (2 : Int32)) &&& (858993459 : Int32))) + (k_ushr (((p0 - ((k_ushr p0 (1 : Int32)) &&& (1431655765 : Int32))) &&& (858993459 : Int32)) + ((k_ushr (p0 - ((k_ushr p0 (1 : Int32)) &&& (1431655765 : Int32))) (2 : Int32)) &&& (858993459 : Int32))) (4 : Int32))) &&& (252645135 : Int32)) + (k_ushr (((((p0 - ((k_ushr p0 (1 : Int32)) &&& (1431655765 : Int32))) &&& (858993459 : Int32)) + ((k_ushr (p0 - ((k_ushr p0 (1 : Int32)) &&& (1431655765 : Int32))) (2 : Int32)) &&& (858993459 : Int32))) + (k_ushr (((p0 - ((k_ushr p0 (1 : Int32)) &&& (1431655765 : Int32))) &&& (858993459 : Int32)) + ((k_ushr (p0 - ((k_ushr p0 (1 : Int32)) &&& (1431655765 : Int32))) (2 : Int32)) &&& (858993459 : Int32))) (4 : Int32))) &&& (252645135 : Int32)) (8 : Int32))) (16 : Int32))) &&& (63 : Int32))
theorem hd_J6_bitCount_0f7a4 : yJ6_bitCount_0f7a4.cls ≠ "java/lang/invoke/MethodHandle" ∧ yJ6_bitCount_0f7a4.cls ≠ "java/lang/invoke/VarHandle" ∧ (parseMethodDescriptor yJ6_bitCount_0f7a4.desc).map (fun d => d.parameters.length) = some 1 := by decide +kernel
theorem hdv_J6_bitCount_0f7a4 : yJ6_bitCount_0f7a4.cls = RJ6 ∧ yJ6_bitCount_0f7a4.cls ≠ "java/lang/invoke/MethodHandle" ∧ yJ6_bitCount_0f7a4.cls ≠ "java/lang/invoke/VarHandle" ∧ (parseMethodDescriptor yJ6_bitCount_0f7a4.desc).map (fun d => d.parameters.length) = some 1 := ⟨rfl, hd_J6_bitCount_0f7a4⟩
set_option maxHeartbeats 4000000 in
set_option maxRecDepth 100000 in
theorem c_J6_bitCount_0f7a4 (l : Launch) (D : va_G)  (p0 : Int32) (Q : Int32 → Prop) (h : wp_J6_bitCount_0f7a4 p0 Q) : Met l yJ6_bitCount_0f7a4 wsJ6_bitCount_0f7a4 rm_J6_bitCount_0f7a4 (k_PR D [] wE k_0 [.int p0]) (vp_Si Q) 0 0 (fun _ => False) := by
  refine k_metR (by decide) rfl (Nat.le_of_ble_eq_true rfl) ?_
  intro Γ G E
  unfold wp_J6_bitCount_0f7a4 at h
  show k_J Γ rm_J6_bitCount_0f7a4 1 true wE 0 [(0, .int p0)] [] k_0
  refine r_iload_n G dJ6_bitCount_0f7a4_0 0 rfl rfl ?_
  refine r_iload_n G dJ6_bitCount_0f7a4_1 0 rfl rfl ?_
  refine r_iconst G (1 : Int32) dJ6_bitCount_0f7a4_2 kc_1 ?_
  refine r_iushr G dJ6_bitCount_0f7a4_3 ?_
  refine r_ldcw G (1431655765 : Int32) (G.2.2.2.2.1 (.constant RJ6 265 (1431655765 : Int32)) (by decide +kernel)) dJ6_bitCount_0f7a4_4 ?_
  refine r_iand G dJ6_bitCount_0f7a4_7 ?_
  refine r_isub G dJ6_bitCount_0f7a4_8 ?_
  refine r_istore_n (lv' := [(0, .int (p0 - ((k_ushr p0 (1 : Int32)) &&& (1431655765 : Int32))))]) G dJ6_bitCount_0f7a4_9 rfl (by decide) rfl ?_
  refine r_iload_n G dJ6_bitCount_0f7a4_10 0 rfl rfl ?_
  refine r_ldcw G (858993459 : Int32) (G.2.2.2.2.1 (.constant RJ6 266 (858993459 : Int32)) (by decide +kernel)) dJ6_bitCount_0f7a4_11 ?_
  refine r_iand G dJ6_bitCount_0f7a4_14 ?_
  refine r_iload_n G dJ6_bitCount_0f7a4_15 0 rfl rfl ?_
  refine r_iconst G (2 : Int32) dJ6_bitCount_0f7a4_16 kc_2 ?_
  refine r_iushr G dJ6_bitCount_0f7a4_17 ?_
  refine r_ldcw G (858993459 : Int32) (G.2.2.2.2.1 (.constant RJ6 266 (858993459 : Int32)) (by decide +kernel)) dJ6_bitCount_0f7a4_18 ?_
  refine r_iand G dJ6_bitCount_0f7a4_21 ?_
  refine r_iadd G dJ6_bitCount_0f7a4_22 ?_
  refine r_istore_n (lv' := [(0, .int (((p0 - ((k_ushr p0 (1 : Int32)) &&& (1431655765 : Int32))) &&& (858993459 : Int32)) + ((k_ushr (p0 - ((k_ushr p0 (1 : Int32)) &&& (1431655765 : Int32))) (2 : Int32)) &&& (858993459 : Int32))))]) G dJ6_bitCount_0f7a4_23 rfl (by decide) rfl ?_
  refine r_iload_n G dJ6_bitCount_0f7a4_24 0 rfl rfl ?_
  refine r_iload_n G dJ6_bitCount_0f7a4_25 0 rfl rfl ?_
  refine r_iconst G (4 : Int32) dJ6_bitCount_0f7a4_26 kc_4 ?_
  refine r_iushr G dJ6_bitCount_0f7a4_27 ?_
  refine r_iadd G dJ6_bitCount_0f7a4_28 ?_
  refine r_ldcw G (252645135 : Int32) (G.2.2.2.2.1 (.constant RJ6 267 (252645135 : Int32)) (by decide +kernel)) dJ6_bitCount_0f7a4_29 ?_
  refine r_iand G dJ6_bitCount_0f7a4_32 ?_
  refine r_istore_n (lv' := [(0, .int (((((p0 - ((k_ushr p0 (1 : Int32)) &&& (1431655765 : Int32))) &&& (858993459 : Int32)) + ((k_ushr (p0 - ((k_ushr p0 (1 : Int32)) &&& (1431655765 : Int32))) (2 : Int32)) &&& (858993459 : Int32))) + (k_ushr (((p0 - ((k_ushr p0 (1 : Int32)) &&& (1431655765 : Int32))) &&& (858993459 : Int32)) + ((k_ushr (p0 - ((k_ushr p0 (1 : Int32)) &&& (1431655765 : Int32))) (2 : Int32)) &&& (858993459 : Int32))) (4 : Int32))) &&& (252645135 : Int32)))]) G dJ6_bitCount_0f7a4_33 rfl (by decide) rfl ?_
  refine r_iload_n G dJ6_bitCount_0f7a4_34 0 rfl rfl ?_
  refine r_iload_n G dJ6_bitCount_0f7a4_35 0 rfl rfl ?_
  refine r_bipush G (8 : Int32) dJ6_bitCount_0f7a4_36 kb_8 ?_
  refine r_iushr G dJ6_bitCount_0f7a4_38 ?_
  refine r_iadd G dJ6_bitCount_0f7a4_39 ?_
  refine r_istore_n (lv' := [(0, .int ((((((p0 - ((k_ushr p0 (1 : Int32)) &&& (1431655765 : Int32))) &&& (858993459 : Int32)) + ((k_ushr (p0 - ((k_ushr p0 (1 : Int32)) &&& (1431655765 : Int32))) (2 : Int32)) &&& (858993459 : Int32))) + (k_ushr (((p0 - ((k_ushr p0 (1 : Int32)) &&& (1431655765 : Int32))) &&& (858993459 : Int32)) + ((k_ushr (p0 - ((k_ushr p0 (1 : Int32)) &&& (1431655765 : Int32))) (2 : Int32)) &&& (858993459 : Int32))) (4 : Int32))) &&& (252645135 : Int32)) + (k_ushr (((((p0 - ((k_ushr p0 (1 : Int32)) &&& (1431655765 : Int32))) &&& (858993459 : Int32)) + ((k_ushr (p0 - ((k_ushr p0 (1 : Int32)) &&& (1431655765 : Int32))) (2 : Int32)) &&& (858993459 : Int32))) + (k_ushr (((p0 - ((k_ushr p0 (1 : Int32)) &&& (1431655765 : Int32))) &&& (858993459 : Int32)) + ((k_ushr (p0 - ((k_ushr p0 (1 : Int32)) &&& (1431655765 : Int32))) (2 : Int32)) &&& (858993459 : Int32))) (4 : Int32))) &&& (252645135 : Int32)) (8 : Int32))))]) G dJ6_bitCount_0f7a4_40 rfl (by decide) rfl ?_
  refine r_iload_n G dJ6_bitCount_0f7a4_41 0 rfl rfl ?_
  refine r_iload_n G dJ6_bitCount_0f7a4_42 0 rfl rfl ?_
  refine r_bipush G (16 : Int32) dJ6_bitCount_0f7a4_43 kb_16 ?_
  refine r_iushr G dJ6_bitCount_0f7a4_45 ?_
  refine r_iadd G dJ6_bitCount_0f7a4_46 ?_
  refine r_istore_n (lv' := [(0, .int (((((((p0 - ((k_ushr p0 (1 : Int32)) &&& (1431655765 : Int32))) &&& (858993459 : Int32)) + ((k_ushr (p0 - ((k_ushr p0 (1 : Int32)) &&& (1431655765 : Int32))) (2 : Int32)) &&& (858993459 : Int32))) + (k_ushr (((p0 - ((k_ushr p0 (1 : Int32)) &&& (1431655765 : Int32))) &&& (858993459 : Int32)) + ((k_ushr (p0 - ((k_ushr p0 (1 : Int32)) &&& (1431655765 : Int32))) (2 : Int32)) &&& (858993459 : Int32))) (4 : Int32))) &&& (252645135 : Int32)) + (k_ushr (((((p0 - ((k_ushr p0 (1 : Int32)) &&& (1431655765 : Int32))) &&& (858993459 : Int32)) + ((k_ushr (p0 - ((k_ushr p0 (1 : Int32)) &&& (1431655765 : Int32))) (2 : Int32)) &&& (858993459 : Int32))) + (k_ushr (((p0 - ((k_ushr p0 (1 : Int32)) &&& (1431655765 : Int32))) &&& (858993459 : Int32)) + ((k_ushr (p0 - ((k_ushr p0 (1 : Int32)) &&& (1431655765 : Int32))) (2 : Int32)) &&& (858993459 : Int32))) (4 : Int32))) &&& (252645135 : Int32)) (8 : Int32))) + (k_ushr ((((((p0 - ((k_ushr p0 (1 : Int32)) &&& (1431655765 : Int32))) &&& (858993459 : Int32)) + ((k_ushr (p0 - ((k_ushr p0 (1 : Int32)) &&& (1431655765 : Int32))) (2 : Int32)) &&& (858993459 : Int32))) + (k_ushr (((p0 - ((k_ushr p0 (1 : Int32)) &&& (1431655765 : Int32))) &&& (858993459 : Int32)) + ((k_ushr (p0 - ((k_ushr p0 (1 : Int32)) &&& (1431655765 : Int32))) (2 : Int32)) &&& (858993459 : Int32))) (4 : Int32))) &&& (252645135 : Int32)) + (k_ushr (((((p0 - ((k_ushr p0 (1 : Int32)) &&& (1431655765 : Int32))) &&& (858993459 : Int32)) + ((k_ushr (p0 - ((k_ushr p0 (1 : Int32)) &&& (1431655765 : Int32))) (2 : Int32)) &&& (858993459 : Int32))) + (k_ushr (((p0 - ((k_ushr p0 (1 : Int32)) &&& (1431655765 : Int32))) &&& (858993459 : Int32)) + ((k_ushr (p0 - ((k_ushr p0 (1 : Int32)) &&& (1431655765 : Int32))) (2 : Int32)) &&& (858993459 : Int32))) (4 : Int32))) &&& (252645135 : Int32)) (8 : Int32))) (16 : Int32))))]) G dJ6_bitCount_0f7a4_47 rfl (by decide) rfl ?_
  refine r_iload_n G dJ6_bitCount_0f7a4_48 0 rfl rfl ?_
  refine r_bipush G (63 : Int32) dJ6_bitCount_0f7a4_49 kb_63 ?_
  refine r_iand G dJ6_bitCount_0f7a4_51 ?_
  exact r_iretR G E dJ6_bitCount_0f7a4_52 h
abbrev rm_X4_only : Room := { frames := 0, cells := 0, slots := 0, locals := 0 }
def wp_X4_only (p0 : Int32) (Q : Int32 → Prop) : Prop :=
  Q ((1 : Int32) <<< (p0 &&& 31))
theorem hd_X4_only : yX4_only.cls ≠ "java/lang/invoke/MethodHandle" ∧ yX4_only.cls ≠ "java/lang/invoke/VarHandle" ∧ (parseMethodDescriptor yX4_only.desc).map (fun d => d.parameters.length) = some 1 := by decide +kernel
theorem hdv_X4_only : yX4_only.cls = RX4 ∧ yX4_only.cls ≠ "java/lang/invoke/MethodHandle" ∧ yX4_only.cls ≠ "java/lang/invoke/VarHandle" ∧ (parseMethodDescriptor yX4_only.desc).map (fun d => d.parameters.length) = some 1 := ⟨rfl, hd_X4_only⟩
set_option maxHeartbeats 4000000 in
set_option maxRecDepth 100000 in
theorem c_X4_only (l : Launch) (D : va_G)  (p0 : Int32) (Q : Int32 → Prop) (h : wp_X4_only p0 Q) : Met l yX4_only wsX4_only rm_X4_only (k_PR D [] wE k_0 [.int p0]) (vp_Si Q) 0 0 (fun _ => False) := by
  refine k_metR (by decide) rfl (Nat.le_of_ble_eq_true rfl) ?_
  intro Γ G E
  unfold wp_X4_only at h
  show k_J Γ rm_X4_only 1 true wE 0 [(0, .int p0)] [] k_0
  refine r_iconst G (1 : Int32) dX4_only_0 kc_1 ?_
  refine r_iload_n G dX4_only_1 0 rfl rfl ?_
  refine r_ishl G dX4_only_2 ?_
  exact r_iretR G E dX4_only_3 h
abbrev rm_X5_plus : Room := { frames := 0, cells := 0, slots := 0, locals := 0 }
def wp_X5_plus (p0 p1 : Int32) (Q : Int32 → Prop) : Prop :=
  Q (k_rem (p0 + p1) (23 : Int32))
theorem hd_X5_plus : yX5_plus.cls ≠ "java/lang/invoke/MethodHandle" ∧ yX5_plus.cls ≠ "java/lang/invoke/VarHandle" ∧ (parseMethodDescriptor yX5_plus.desc).map (fun d => d.parameters.length) = some 2 := by decide +kernel
theorem hdv_X5_plus : yX5_plus.cls = RX5 ∧ yX5_plus.cls ≠ "java/lang/invoke/MethodHandle" ∧ yX5_plus.cls ≠ "java/lang/invoke/VarHandle" ∧ (parseMethodDescriptor yX5_plus.desc).map (fun d => d.parameters.length) = some 2 := ⟨rfl, hd_X5_plus⟩
set_option maxHeartbeats 4000000 in
set_option maxRecDepth 100000 in
theorem c_X5_plus (l : Launch) (D : va_G)  (p0 p1 : Int32) (Q : Int32 → Prop) (h : wp_X5_plus p0 p1 Q) : Met l yX5_plus wsX5_plus rm_X5_plus (k_PR D [] wE k_0 [.int p0, .int p1]) (vp_Si Q) 0 0 (fun _ => False) := by
  refine k_metR (by decide) rfl (Nat.le_of_ble_eq_true rfl) ?_
  intro Γ G E
  unfold wp_X5_plus at h
  show k_J Γ rm_X5_plus 2 true wE 0 [(0, .int p0), (1, .int p1)] [] k_0
  refine r_iload_n G dX5_plus_0 0 rfl rfl ?_
  refine r_iload_n G dX5_plus_1 1 rfl rfl ?_
  refine r_iadd G dX5_plus_2 ?_
  refine r_bipush G (23 : Int32) dX5_plus_3 kb_23 ?_
  refine r_irem G kne_23 dX5_plus_5 ?_
  exact r_iretR G E dX5_plus_6 h
abbrev rm_X5_raised : Room := { frames := 0, cells := 0, slots := 0, locals := 0 }
def wp_X5_raised (p0 p1 : Int32) (Q : Int32 → Prop) : Prop :=
  (k_lp2 (fun (B_4 : Int32 → Int32 → Prop) (x2_4 : Int32) (x3_4 : Int32) => B_4 x2_4 x3_4) (1 : Int32) (0 : Int32))
theorem hd_X5_raised : yX5_raised.cls ≠ "java/lang/invoke/MethodHandle" ∧ yX5_raised.cls ≠ "java/lang/invoke/VarHandle" ∧ (parseMethodDescriptor yX5_raised.desc).map (fun d => d.parameters.length) = some 2 := by decide +kernel
theorem hdv_X5_raised : yX5_raised.cls = RX5 ∧ yX5_raised.cls ≠ "java/lang/invoke/MethodHandle" ∧ yX5_raised.cls ≠ "java/lang/invoke/VarHandle" ∧ (parseMethodDescriptor yX5_raised.desc).map (fun d => d.parameters.length) = some 2 := ⟨rfl, hd_X5_raised⟩
set_option maxHeartbeats 4000000 in
set_option maxRecDepth 100000 in
theorem c_X5_raised (l : Launch) (D : va_G)  (p0 p1 : Int32) (Q : Int32 → Prop) (h : wp_X5_raised p0 p1 Q) : Met l yX5_raised wsX5_raised rm_X5_raised (k_PR D [] wE k_0 [.int p0, .int p1]) (vp_Si Q) 0 0 (fun _ => False) := by
  refine k_metR (by decide) rfl (Nat.le_of_ble_eq_true rfl) ?_
  intro Γ G E
  unfold wp_X5_raised at h
  show k_J Γ rm_X5_raised 4 true wE 0 [(0, .int p0), (1, .int p1)] [] k_0
  refine r_iconst G (1 : Int32) dX5_raised_0 kc_1 ?_
  refine r_istore_n (lv' := [(2, .int (1 : Int32)), (0, .int p0), (1, .int p1)]) G dX5_raised_1 rfl (by decide) rfl ?_
  refine r_iconst G (0 : Int32) dX5_raised_2 kc_0 ?_
  refine r_istore_n (lv' := [(3, .int (0 : Int32)), (2, .int (1 : Int32)), (0, .int p0), (1, .int p1)]) G dX5_raised_3 rfl (by decide) rfl ?_
  obtain ⟨I_4, n_4, h, hI_4⟩ := h
  have key_4 : ∀ (n : Nat) (x2_4 : Int32) (x3_4 : Int32), I_4 n x2_4 x3_4 → k_J Γ rm_X5_raised 4 true wE 4 [(0, .int p0), (1, .int p1), (2, .int x2_4), (3, .int x3_4)] [] k_0 := by
    intro n
    induction n using Nat.strongRecOn with
    | ind n ih_4 =>
      intro x2_4 x3_4 h
      replace h := hI_4 n x2_4 x3_4 h
      obtain ⟨m_4, hm_4, h⟩ := h
      exact r_sub [0, 1, 2, 3] rfl (ih_4 m_4 hm_4 _ _ h)
  exact r_sub [2, 3, 1, 0] rfl (key_4 n_4 _ _ h)
abbrev rm_X5_sealOf : Room := { frames := 1, cells := 0, slots := 0, locals := 23 }
def wp_X5_sealOf (p0 : Int32) (Q : Int32 → Prop) : Prop :=
  wp_X5_raised (4 : Int32) p0 (fun (r_2 : Int32) => Q r_2)
theorem hd_X5_sealOf : yX5_sealOf.cls ≠ "java/lang/invoke/MethodHandle" ∧ yX5_sealOf.cls ≠ "java/lang/invoke/VarHandle" ∧ (parseMethodDescriptor yX5_sealOf.desc).map (fun d => d.parameters.length) = some 1 := by decide +kernel
theorem hdv_X5_sealOf : yX5_sealOf.cls = RX5 ∧ yX5_sealOf.cls ≠ "java/lang/invoke/MethodHandle" ∧ yX5_sealOf.cls ≠ "java/lang/invoke/VarHandle" ∧ (parseMethodDescriptor yX5_sealOf.desc).map (fun d => d.parameters.length) = some 1 := ⟨rfl, hd_X5_sealOf⟩
set_option maxHeartbeats 4000000 in
set_option maxRecDepth 100000 in
theorem c_X5_sealOf (l : Launch) (D : va_G)  (p0 : Int32) (Q : Int32 → Prop) (h : wp_X5_sealOf p0 Q) : Met l yX5_sealOf wsX5_sealOf rm_X5_sealOf (k_PR D [] wE k_0 [.int p0]) (vp_Si Q) 0 0 (fun _ => False) := by
  refine k_metR (by decide) rfl (Nat.le_of_ble_eq_true rfl) ?_
  intro Γ G E
  unfold wp_X5_sealOf at h
  show k_J Γ rm_X5_sealOf 1 true wE 0 [(0, .int p0)] [] k_0
  refine r_iconst G (4 : Int32) dX5_sealOf_0 kc_4 ?_
  refine r_iload_n G dX5_sealOf_1 0 rfl rfl ?_
  refine r_cSR G [.int (4 : Int32), .int p0] [] (c_X5_raised (k_l Γ) (k_D Γ) _ _ _ h) (va_cwS 2 G.2.2.2.2.1 gX5_sealOf_X5_raised rfl rfl rfl hd_X5_raised ⟨Nat.le_of_ble_eq_true rfl, Nat.le_of_ble_eq_true rfl⟩) [] rfl (fun _ _ => k_E0) rfl rfl (Nat.le_of_ble_eq_true rfl) dX5_sealOf_2 (fun r_2 h => ?_)
  exact r_iretR G E dX5_sealOf_5 h
abbrev rm_X5_times : Room := { frames := 0, cells := 0, slots := 0, locals := 0 }
def wp_X5_times (p0 p1 : Int32) (Q : Int32 → Prop) : Prop :=
  Q (k_rem (p0 * p1) (23 : Int32))
theorem hd_X5_times : yX5_times.cls ≠ "java/lang/invoke/MethodHandle" ∧ yX5_times.cls ≠ "java/lang/invoke/VarHandle" ∧ (parseMethodDescriptor yX5_times.desc).map (fun d => d.parameters.length) = some 2 := by decide +kernel
theorem hdv_X5_times : yX5_times.cls = RX5 ∧ yX5_times.cls ≠ "java/lang/invoke/MethodHandle" ∧ yX5_times.cls ≠ "java/lang/invoke/VarHandle" ∧ (parseMethodDescriptor yX5_times.desc).map (fun d => d.parameters.length) = some 2 := ⟨rfl, hd_X5_times⟩
set_option maxHeartbeats 4000000 in
set_option maxRecDepth 100000 in
theorem c_X5_times (l : Launch) (D : va_G)  (p0 p1 : Int32) (Q : Int32 → Prop) (h : wp_X5_times p0 p1 Q) : Met l yX5_times wsX5_times rm_X5_times (k_PR D [] wE k_0 [.int p0, .int p1]) (vp_Si Q) 0 0 (fun _ => False) := by
  refine k_metR (by decide) rfl (Nat.le_of_ble_eq_true rfl) ?_
  intro Γ G E
  unfold wp_X5_times at h
  show k_J Γ rm_X5_times 2 true wE 0 [(0, .int p0), (1, .int p1)] [] k_0
  refine r_iload_n G dX5_times_0 0 rfl rfl ?_
  refine r_iload_n G dX5_times_1 1 rfl rfl ?_
  refine r_imul G dX5_times_2 ?_
  refine r_bipush G (23 : Int32) dX5_times_3 kb_23 ?_
  refine r_irem G kne_23 dX5_times_5 ?_
  exact r_iretR G E dX5_times_6 h
abbrev rm_X4_has : Room := { frames := 0, cells := 0, slots := 0, locals := 0 }
def wp_X4_has (p0 p1 : Int32) (Q : Int32 → Prop) : Prop :=
  ((((p0 >>> (p1 &&& 31)) &&& (1 : Int32)) = 0 → Q (0 : Int32)) ∧ (¬ ((p0 >>> (p1 &&& 31)) &&& (1 : Int32)) = 0 → Q (1 : Int32)))
theorem hd_X4_has : yX4_has.cls ≠ "java/lang/invoke/MethodHandle" ∧ yX4_has.cls ≠ "java/lang/invoke/VarHandle" ∧ (parseMethodDescriptor yX4_has.desc).map (fun d => d.parameters.length) = some 2 := by decide +kernel
theorem hdv_X4_has : yX4_has.cls = RX4 ∧ yX4_has.cls ≠ "java/lang/invoke/MethodHandle" ∧ yX4_has.cls ≠ "java/lang/invoke/VarHandle" ∧ (parseMethodDescriptor yX4_has.desc).map (fun d => d.parameters.length) = some 2 := ⟨rfl, hd_X4_has⟩
set_option maxHeartbeats 4000000 in
set_option maxRecDepth 100000 in
theorem c_X4_has (l : Launch) (D : va_G)  (p0 p1 : Int32) (Q : Int32 → Prop) (h : wp_X4_has p0 p1 Q) : Met l yX4_has wsX4_has rm_X4_has (k_PR D [] wE k_0 [.int p0, .int p1]) (vp_Si (fun r => (r = 0 ∨ r = 1) ∧ Q r)) 0 0 (fun _ => False) := by
  refine k_metR (by decide) rfl (Nat.le_of_ble_eq_true rfl) ?_
  intro Γ G E
  unfold wp_X4_has at h
  show k_J Γ rm_X4_has 2 true wE 0 [(0, .int p0), (1, .int p1)] [] k_0
  refine r_iload_n G dX4_has_0 0 rfl rfl ?_
  refine r_iload_n G dX4_has_1 1 rfl rfl ?_
  refine r_ishr G dX4_has_2 ?_
  refine r_iconst G (1 : Int32) dX4_has_3 kc_1 ?_
  refine r_iand G dX4_has_4 ?_
  refine r_if_eq G 12 dX4_has_5 (by decide) (fun hc => ?_) (fun hc => ?_)
  · replace h := h.1 hc
    refine r_iconst G (0 : Int32) dX4_has_12 kc_0 ?_
    exact r_zretR G E kz_0 dX4_has_13 ⟨kzo_0, h⟩
  · replace h := h.2 hc
    refine r_iconst G (1 : Int32) dX4_has_8 kc_1 ?_
    refine r_goto G 13 dX4_has_9 (by decide) ?_
    exact r_zretR G E kz_1 dX4_has_13 ⟨kzo_1, h⟩
abbrev rm_X5_joined : Room := { frames := 0, cells := 0, slots := 0, locals := 0 }
def wp_X5_joined (p0 p1 : Int32) (Q : Int32 → Prop) : Prop :=
  Q (k_rem (p0 * p1) (47 : Int32))
theorem hd_X5_joined : yX5_joined.cls ≠ "java/lang/invoke/MethodHandle" ∧ yX5_joined.cls ≠ "java/lang/invoke/VarHandle" ∧ (parseMethodDescriptor yX5_joined.desc).map (fun d => d.parameters.length) = some 2 := by decide +kernel
theorem hdv_X5_joined : yX5_joined.cls = RX5 ∧ yX5_joined.cls ≠ "java/lang/invoke/MethodHandle" ∧ yX5_joined.cls ≠ "java/lang/invoke/VarHandle" ∧ (parseMethodDescriptor yX5_joined.desc).map (fun d => d.parameters.length) = some 2 := ⟨rfl, hd_X5_joined⟩
set_option maxHeartbeats 4000000 in
set_option maxRecDepth 100000 in
theorem c_X5_joined (l : Launch) (D : va_G)  (p0 p1 : Int32) (Q : Int32 → Prop) (h : wp_X5_joined p0 p1 Q) : Met l yX5_joined wsX5_joined rm_X5_joined (k_PR D [] wE k_0 [.int p0, .int p1]) (vp_Si Q) 0 0 (fun _ => False) := by
  refine k_metR (by decide) rfl (Nat.le_of_ble_eq_true rfl) ?_
  intro Γ G E
  unfold wp_X5_joined at h
  show k_J Γ rm_X5_joined 2 true wE 0 [(0, .int p0), (1, .int p1)] [] k_0
  refine r_iload_n G dX5_joined_0 0 rfl rfl ?_
  refine r_iload_n G dX5_joined_1 1 rfl rfl ?_
  refine r_imul G dX5_joined_2 ?_
  refine r_bipush G (47 : Int32) dX5_joined_3 kb_47 ?_
  refine r_irem G kne_47 dX5_joined_5 ?_
  exact r_iretR G E dX5_joined_6 h
abbrev rm_X5_less : Room := { frames := 0, cells := 0, slots := 0, locals := 0 }
def wp_X5_less (p0 p1 : Int32) (Q : Int32 → Prop) : Prop :=
  Q (k_rem ((p0 + (23 : Int32)) - p1) (23 : Int32))
theorem hd_X5_less : yX5_less.cls ≠ "java/lang/invoke/MethodHandle" ∧ yX5_less.cls ≠ "java/lang/invoke/VarHandle" ∧ (parseMethodDescriptor yX5_less.desc).map (fun d => d.parameters.length) = some 2 := by decide +kernel
theorem hdv_X5_less : yX5_less.cls = RX5 ∧ yX5_less.cls ≠ "java/lang/invoke/MethodHandle" ∧ yX5_less.cls ≠ "java/lang/invoke/VarHandle" ∧ (parseMethodDescriptor yX5_less.desc).map (fun d => d.parameters.length) = some 2 := ⟨rfl, hd_X5_less⟩
set_option maxHeartbeats 4000000 in
set_option maxRecDepth 100000 in
theorem c_X5_less (l : Launch) (D : va_G)  (p0 p1 : Int32) (Q : Int32 → Prop) (h : wp_X5_less p0 p1 Q) : Met l yX5_less wsX5_less rm_X5_less (k_PR D [] wE k_0 [.int p0, .int p1]) (vp_Si Q) 0 0 (fun _ => False) := by
  refine k_metR (by decide) rfl (Nat.le_of_ble_eq_true rfl) ?_
  intro Γ G E
  unfold wp_X5_less at h
  show k_J Γ rm_X5_less 2 true wE 0 [(0, .int p0), (1, .int p1)] [] k_0
  refine r_iload_n G dX5_less_0 0 rfl rfl ?_
  refine r_bipush G (23 : Int32) dX5_less_1 kb_23 ?_
  refine r_iadd G dX5_less_3 ?_
  refine r_iload_n G dX5_less_4 1 rfl rfl ?_
  refine r_isub G dX5_less_5 ?_
  refine r_bipush G (23 : Int32) dX5_less_6 kb_23 ?_
  refine r_irem G kne_23 dX5_less_8 ?_
  exact r_iretR G E dX5_less_9 h
abbrev rm_X5_inverse : Room := { frames := 0, cells := 0, slots := 0, locals := 0 }
def wp_X5_inverse (p0 : Int32) (Q : Int32 → Prop) : Prop :=
  (k_lp2 (fun (B_4 : Int32 → Int32 → Prop) (x1_4 : Int32) (x2_4 : Int32) => B_4 x1_4 x2_4) (1 : Int32) (0 : Int32))
theorem hd_X5_inverse : yX5_inverse.cls ≠ "java/lang/invoke/MethodHandle" ∧ yX5_inverse.cls ≠ "java/lang/invoke/VarHandle" ∧ (parseMethodDescriptor yX5_inverse.desc).map (fun d => d.parameters.length) = some 1 := by decide +kernel
theorem hdv_X5_inverse : yX5_inverse.cls = RX5 ∧ yX5_inverse.cls ≠ "java/lang/invoke/MethodHandle" ∧ yX5_inverse.cls ≠ "java/lang/invoke/VarHandle" ∧ (parseMethodDescriptor yX5_inverse.desc).map (fun d => d.parameters.length) = some 1 := ⟨rfl, hd_X5_inverse⟩
set_option maxHeartbeats 4000000 in
set_option maxRecDepth 100000 in
theorem c_X5_inverse (l : Launch) (D : va_G)  (p0 : Int32) (Q : Int32 → Prop) (h : wp_X5_inverse p0 Q) : Met l yX5_inverse wsX5_inverse rm_X5_inverse (k_PR D [] wE k_0 [.int p0]) (vp_Si Q) 0 0 (fun _ => False) := by
  refine k_metR (by decide) rfl (Nat.le_of_ble_eq_true rfl) ?_
  intro Γ G E
  unfold wp_X5_inverse at h
  show k_J Γ rm_X5_inverse 3 true wE 0 [(0, .int p0)] [] k_0
  refine r_iconst G (1 : Int32) dX5_inverse_0 kc_1 ?_
  refine r_istore_n (lv' := [(1, .int (1 : Int32)), (0, .int p0)]) G dX5_inverse_1 rfl (by decide) rfl ?_
  refine r_iconst G (0 : Int32) dX5_inverse_2 kc_0 ?_
  refine r_istore_n (lv' := [(2, .int (0 : Int32)), (1, .int (1 : Int32)), (0, .int p0)]) G dX5_inverse_3 rfl (by decide) rfl ?_
  obtain ⟨I_4, n_4, h, hI_4⟩ := h
  have key_4 : ∀ (n : Nat) (x1_4 : Int32) (x2_4 : Int32), I_4 n x1_4 x2_4 → k_J Γ rm_X5_inverse 3 true wE 4 [(0, .int p0), (1, .int x1_4), (2, .int x2_4)] [] k_0 := by
    intro n
    induction n using Nat.strongRecOn with
    | ind n ih_4 =>
      intro x1_4 x2_4 h
      replace h := hI_4 n x1_4 x2_4 h
      obtain ⟨m_4, hm_4, h⟩ := h
      exact r_sub [0, 1, 2] rfl (ih_4 m_4 hm_4 _ _ h)
  exact r_sub [2, 1, 0] rfl (key_4 n_4 _ _ h)
abbrev rm_X5_weight : Room := { frames := 1, cells := 0, slots := 0, locals := 22 }
def wp_X5_weight (p0 p1 p2 : Int32) (Q : Int32 → Prop) : Prop :=
  (k_lp3 (fun (B_8 : Int32 → Int32 → Int32 → Prop) (x3_8 : Int32) (x4_8 : Int32) (x5_8 : Int32) => B_8 x3_8 x4_8 x5_8) (1 : Int32) (1 : Int32) (1 : Int32))
theorem hd_X5_weight : yX5_weight.cls ≠ "java/lang/invoke/MethodHandle" ∧ yX5_weight.cls ≠ "java/lang/invoke/VarHandle" ∧ (parseMethodDescriptor yX5_weight.desc).map (fun d => d.parameters.length) = some 3 := by decide +kernel
theorem hdv_X5_weight : yX5_weight.cls = RX5 ∧ yX5_weight.cls ≠ "java/lang/invoke/MethodHandle" ∧ yX5_weight.cls ≠ "java/lang/invoke/VarHandle" ∧ (parseMethodDescriptor yX5_weight.desc).map (fun d => d.parameters.length) = some 3 := ⟨rfl, hd_X5_weight⟩
set_option maxHeartbeats 4000000 in
set_option maxRecDepth 100000 in
theorem c_X5_weight (l : Launch) (D : va_G)  (p0 p1 p2 : Int32) (Q : Int32 → Prop) (h : wp_X5_weight p0 p1 p2 Q) : Met l yX5_weight wsX5_weight rm_X5_weight (k_PR D [] wE k_0 [.int p0, .int p1, .int p2]) (vp_Si Q) 0 0 (fun _ => False) := by
  refine k_metR (by decide) rfl (Nat.le_of_ble_eq_true rfl) ?_
  intro Γ G E
  unfold wp_X5_weight at h
  show k_J Γ rm_X5_weight 6 true wE 0 [(0, .int p0), (1, .int p1), (2, .int p2)] [] k_0
  refine r_iconst G (1 : Int32) dX5_weight_0 kc_1 ?_
  refine r_istore_n (lv' := [(3, .int (1 : Int32)), (0, .int p0), (1, .int p1), (2, .int p2)]) G dX5_weight_1 rfl (by decide) rfl ?_
  refine r_iconst G (1 : Int32) dX5_weight_2 kc_1 ?_
  refine r_istore (lv' := [(4, .int (1 : Int32)), (3, .int (1 : Int32)), (0, .int p0), (1, .int p1), (2, .int p2)]) G dX5_weight_3 (by decide) rfl ?_
  refine r_iconst G (1 : Int32) dX5_weight_5 kc_1 ?_
  refine r_istore (lv' := [(5, .int (1 : Int32)), (4, .int (1 : Int32)), (3, .int (1 : Int32)), (0, .int p0), (1, .int p1), (2, .int p2)]) G dX5_weight_6 (by decide) rfl ?_
  obtain ⟨I_8, n_8, h, hI_8⟩ := h
  have key_8 : ∀ (n : Nat) (x3_8 : Int32) (x4_8 : Int32) (x5_8 : Int32), I_8 n x3_8 x4_8 x5_8 → k_J Γ rm_X5_weight 6 true wE 8 [(0, .int p0), (1, .int p1), (2, .int p2), (3, .int x3_8), (4, .int x4_8), (5, .int x5_8)] [] k_0 := by
    intro n
    induction n using Nat.strongRecOn with
    | ind n ih_8 =>
      intro x3_8 x4_8 x5_8 h
      replace h := hI_8 n x3_8 x4_8 x5_8 h
      obtain ⟨m_8, hm_8, h⟩ := h
      exact r_sub [0, 1, 2, 3, 4, 5] rfl (ih_8 m_8 hm_8 _ _ _ h)
  exact r_sub [3, 4, 5, 2, 1, 0] rfl (key_8 n_8 _ _ _ h)
abbrev rm_X4_lowest : Room := { frames := 1, cells := 0, slots := 0, locals := 21 }
def wp_X4_lowest (p0 p1 : Int32) (Q : Int32 → Prop) : Prop :=
  (k_lp3 (fun (B_7 : Int32 → Int32 → Int32 → Prop) (x2_7 : Int32) (x3_7 : Int32) (x4_7 : Int32) => B_7 x2_7 x3_7 x4_7) (0 : Int32) p1 (1 : Int32))
theorem hd_X4_lowest : yX4_lowest.cls ≠ "java/lang/invoke/MethodHandle" ∧ yX4_lowest.cls ≠ "java/lang/invoke/VarHandle" ∧ (parseMethodDescriptor yX4_lowest.desc).map (fun d => d.parameters.length) = some 2 := by decide +kernel
theorem hdv_X4_lowest : yX4_lowest.cls = RX4 ∧ yX4_lowest.cls ≠ "java/lang/invoke/MethodHandle" ∧ yX4_lowest.cls ≠ "java/lang/invoke/VarHandle" ∧ (parseMethodDescriptor yX4_lowest.desc).map (fun d => d.parameters.length) = some 2 := ⟨rfl, hd_X4_lowest⟩
set_option maxHeartbeats 4000000 in
set_option maxRecDepth 100000 in
theorem c_X4_lowest (l : Launch) (D : va_G)  (p0 p1 : Int32) (Q : Int32 → Prop) (h : wp_X4_lowest p0 p1 Q) : Met l yX4_lowest wsX4_lowest rm_X4_lowest (k_PR D [] wE k_0 [.int p0, .int p1]) (vp_Si Q) 0 0 (fun _ => False) := by
  refine k_metR (by decide) rfl (Nat.le_of_ble_eq_true rfl) ?_
  intro Γ G E
  unfold wp_X4_lowest at h
  show k_J Γ rm_X4_lowest 5 true wE 0 [(0, .int p0), (1, .int p1)] [] k_0
  refine r_iconst G (0 : Int32) dX4_lowest_0 kc_0 ?_
  refine r_istore_n (lv' := [(2, .int (0 : Int32)), (0, .int p0), (1, .int p1)]) G dX4_lowest_1 rfl (by decide) rfl ?_
  refine r_iload_n G dX4_lowest_2 2 rfl rfl ?_
  refine r_istore_n (lv' := [(3, .int p1), (2, .int (0 : Int32)), (0, .int p0), (1, .int p1)]) G dX4_lowest_3 rfl (by decide) rfl ?_
  refine r_iconst G (1 : Int32) dX4_lowest_4 kc_1 ?_
  refine r_istore (lv' := [(4, .int (1 : Int32)), (3, .int p1), (2, .int (0 : Int32)), (0, .int p0), (1, .int p1)]) G dX4_lowest_5 (by decide) rfl ?_
  obtain ⟨I_7, n_7, h, hI_7⟩ := h
  have key_7 : ∀ (n : Nat) (x2_7 : Int32) (x3_7 : Int32) (x4_7 : Int32), I_7 n x2_7 x3_7 x4_7 → k_J Γ rm_X4_lowest 5 true wE 7 [(0, .int p0), (2, .int x2_7), (3, .int x3_7), (4, .int x4_7)] [] k_0 := by
    intro n
    induction n using Nat.strongRecOn with
    | ind n ih_7 =>
      intro x2_7 x3_7 x4_7 h
      replace h := hI_7 n x2_7 x3_7 x4_7 h
      obtain ⟨m_7, hm_7, h⟩ := h
      exact r_sub [0, 1, 2, 3] rfl (ih_7 m_7 hm_7 _ _ _ h)
  exact r_sub [3, 2, 1, 0] rfl (key_7 n_7 _ _ _ h)
abbrev rm_X6_isMember : Room := { frames := 0, cells := 0, slots := 0, locals := 0 }
def wp_X6_isMember (p0 : Int32) (Q : Int32 → Prop) : Prop :=
  ((p0 < (1 : Int32) → Q (0 : Int32)) ∧ (¬ p0 < (1 : Int32) → (((7 : Int32) < p0 → Q (0 : Int32)) ∧ (¬ (7 : Int32) < p0 → Q (1 : Int32)))))
theorem hd_X6_isMember : yX6_isMember.cls ≠ "java/lang/invoke/MethodHandle" ∧ yX6_isMember.cls ≠ "java/lang/invoke/VarHandle" ∧ (parseMethodDescriptor yX6_isMember.desc).map (fun d => d.parameters.length) = some 1 := by decide +kernel
theorem hdv_X6_isMember : yX6_isMember.cls = RX6 ∧ yX6_isMember.cls ≠ "java/lang/invoke/MethodHandle" ∧ yX6_isMember.cls ≠ "java/lang/invoke/VarHandle" ∧ (parseMethodDescriptor yX6_isMember.desc).map (fun d => d.parameters.length) = some 1 := ⟨rfl, hd_X6_isMember⟩
set_option maxHeartbeats 4000000 in
set_option maxRecDepth 100000 in
theorem c_X6_isMember (l : Launch) (D : va_G)  (p0 : Int32) (Q : Int32 → Prop) (h : wp_X6_isMember p0 Q) : Met l yX6_isMember wsX6_isMember rm_X6_isMember (k_PR D [] wE k_0 [.int p0]) (vp_Si (fun r => (r = 0 ∨ r = 1) ∧ Q r)) 0 0 (fun _ => False) := by
  refine k_metR (by decide) rfl (Nat.le_of_ble_eq_true rfl) ?_
  intro Γ G E
  unfold wp_X6_isMember at h
  show k_J Γ rm_X6_isMember 1 true wE 0 [(0, .int p0)] [] k_0
  refine r_iload_n G dX6_isMember_0 0 rfl rfl ?_
  refine r_iconst G (1 : Int32) dX6_isMember_1 kc_1 ?_
  refine r_icmp_lt G 15 dX6_isMember_2 (by decide) (fun hc => ?_) (fun hc => ?_)
  · replace h := h.1 hc
    refine r_iconst G (0 : Int32) dX6_isMember_15 kc_0 ?_
    exact r_zretR G E kz_0 dX6_isMember_16 ⟨kzo_0, h⟩
  · replace h := h.2 hc
    refine r_iload_n G dX6_isMember_5 0 rfl rfl ?_
    refine r_bipush G (7 : Int32) dX6_isMember_6 kb_7 ?_
    refine r_icmp_gt G 15 dX6_isMember_8 (by decide) (fun hc => ?_) (fun hc => ?_)
    · replace h := h.1 hc
      refine r_iconst G (0 : Int32) dX6_isMember_15 kc_0 ?_
      exact r_zretR G E kz_0 dX6_isMember_16 ⟨kzo_0, h⟩
    · replace h := h.2 hc
      refine r_iconst G (1 : Int32) dX6_isMember_11 kc_1 ?_
      refine r_goto G 16 dX6_isMember_12 (by decide) ?_
      exact r_zretR G E kz_1 dX6_isMember_16 ⟨kzo_1, h⟩
abbrev rm_X3_isLetter : Room := { frames := 0, cells := 0, slots := 0, locals := 0 }
def wp_X3_isLetter (p0 : Int32) (Q : Int32 → Prop) : Prop :=
  ((p0 = (98 : Int32) → Q (1 : Int32)) ∧ (¬ p0 = (98 : Int32) → ((p0 = (99 : Int32) → Q (0 : Int32)) ∧ (¬ p0 = (99 : Int32) → ((p0 = (100 : Int32) → Q (1 : Int32)) ∧ (¬ p0 = (100 : Int32) → ((p0 = (101 : Int32) → Q (0 : Int32)) ∧ (¬ p0 = (101 : Int32) → ((p0 = (102 : Int32) → Q (1 : Int32)) ∧ (¬ p0 = (102 : Int32) → ((p0 = (103 : Int32) → Q (0 : Int32)) ∧ (¬ p0 = (103 : Int32) → ((p0 = (104 : Int32) → Q (0 : Int32)) ∧ (¬ p0 = (104 : Int32) → ((p0 = (105 : Int32) → Q (0 : Int32)) ∧ (¬ p0 = (105 : Int32) → ((p0 = (106 : Int32) → Q (0 : Int32)) ∧ (¬ p0 = (106 : Int32) → ((p0 = (107 : Int32) → Q (0 : Int32)) ∧ (¬ p0 = (107 : Int32) → ((p0 = (108 : Int32) → Q (0 : Int32)) ∧ (¬ p0 = (108 : Int32) → ((p0 = (109 : Int32) → Q (0 : Int32)) ∧ (¬ p0 = (109 : Int32) → ((p0 = (110 : Int32) → Q (0 : Int32)) ∧ (¬ p0 = (110 : Int32) → ((p0 = (111 : Int32) → Q (1 : Int32)) ∧ (¬ p0 = (111 : Int32) → ((p0 = (112 : Int32) → Q (0 : Int32)) ∧ (¬ p0 = (112 : Int32) → ((p0 = (113 : Int32) → Q (0 : Int32)) ∧ (¬ p0 = (113 : Int32) → ((p0 = (114 : Int32) → Q (0 : Int32)) ∧ (¬ p0 = (114 : Int32) → ((p0 = (115 : Int32) → Q (1 : Int32)) ∧ (¬ p0 = (115 : Int32) → ((p0 = (116 : Int32) → Q (1 : Int32)) ∧ (¬ p0 = (116 : Int32) → ((p0 = (117 : Int32) → Q (0 : Int32)) ∧ (¬ p0 = (117 : Int32) → ((p0 = (118 : Int32) → Q (0 : Int32)) ∧ (¬ p0 = (118 : Int32) → ((p0 = (119 : Int32) → Q (1 : Int32)) ∧ (¬ p0 = (119 : Int32) → Q (0 : Int32)))))))))))))))))))))))))))))))))))))))))))))
theorem hd_X3_isLetter : yX3_isLetter.cls ≠ "java/lang/invoke/MethodHandle" ∧ yX3_isLetter.cls ≠ "java/lang/invoke/VarHandle" ∧ (parseMethodDescriptor yX3_isLetter.desc).map (fun d => d.parameters.length) = some 1 := by decide +kernel
theorem hdv_X3_isLetter : yX3_isLetter.cls = RX3 ∧ yX3_isLetter.cls ≠ "java/lang/invoke/MethodHandle" ∧ yX3_isLetter.cls ≠ "java/lang/invoke/VarHandle" ∧ (parseMethodDescriptor yX3_isLetter.desc).map (fun d => d.parameters.length) = some 1 := ⟨rfl, hd_X3_isLetter⟩
set_option maxHeartbeats 4000000 in
set_option maxRecDepth 100000 in
theorem c_X3_isLetter (l : Launch) (D : va_G)  (p0 : Int32) (Q : Int32 → Prop) (h : wp_X3_isLetter p0 Q) : Met l yX3_isLetter wsX3_isLetter rm_X3_isLetter (k_PR D [] wE k_0 [.int p0]) (vp_Si (fun r => (r = 0 ∨ r = 1) ∧ Q r)) 0 0 (fun _ => False) := by
  refine k_metR (by decide) rfl (Nat.le_of_ble_eq_true rfl) ?_
  intro Γ G E
  unfold wp_X3_isLetter at h
  show k_J Γ rm_X3_isLetter 1 true wE 0 [(0, .int p0)] [] k_0
  refine r_iload_n G dX3_isLetter_0 0 rfl rfl ?_
  rcases Classical.em (p0 = (98 : Int32)) with hs_0 | hs_0
  · replace h := h.1 hs_0
    refine r_tableIn G 104 dX3_isLetter_1 98 (khit hs_0 kt_98) (by decide) (by decide) (off := 103) rfl (by decide) ?_
    refine r_iconst G (1 : Int32) dX3_isLetter_104 kc_1 ?_
    exact r_zretR G E kz_1 dX3_isLetter_105 ⟨kzo_1, h⟩
  replace h := h.2 hs_0
  rcases Classical.em (p0 = (99 : Int32)) with hs_1 | hs_1
  · replace h := h.1 hs_1
    refine r_tableIn G 106 dX3_isLetter_1 99 (khit hs_1 kt_99) (by decide) (by decide) (off := 105) rfl (by decide) ?_
    refine r_iconst G (0 : Int32) dX3_isLetter_106 kc_0 ?_
    exact r_zretR G E kz_0 dX3_isLetter_107 ⟨kzo_0, h⟩
  replace h := h.2 hs_1
  rcases Classical.em (p0 = (100 : Int32)) with hs_2 | hs_2
  · replace h := h.1 hs_2
    refine r_tableIn G 104 dX3_isLetter_1 100 (khit hs_2 kt_100) (by decide) (by decide) (off := 103) rfl (by decide) ?_
    refine r_iconst G (1 : Int32) dX3_isLetter_104 kc_1 ?_
    exact r_zretR G E kz_1 dX3_isLetter_105 ⟨kzo_1, h⟩
  replace h := h.2 hs_2
  rcases Classical.em (p0 = (101 : Int32)) with hs_3 | hs_3
  · replace h := h.1 hs_3
    refine r_tableIn G 106 dX3_isLetter_1 101 (khit hs_3 kt_101) (by decide) (by decide) (off := 105) rfl (by decide) ?_
    refine r_iconst G (0 : Int32) dX3_isLetter_106 kc_0 ?_
    exact r_zretR G E kz_0 dX3_isLetter_107 ⟨kzo_0, h⟩
  replace h := h.2 hs_3
  rcases Classical.em (p0 = (102 : Int32)) with hs_4 | hs_4
  · replace h := h.1 hs_4
    refine r_tableIn G 104 dX3_isLetter_1 102 (khit hs_4 kt_102) (by decide) (by decide) (off := 103) rfl (by decide) ?_
    refine r_iconst G (1 : Int32) dX3_isLetter_104 kc_1 ?_
    exact r_zretR G E kz_1 dX3_isLetter_105 ⟨kzo_1, h⟩
  replace h := h.2 hs_4
  rcases Classical.em (p0 = (103 : Int32)) with hs_5 | hs_5
  · replace h := h.1 hs_5
    refine r_tableIn G 106 dX3_isLetter_1 103 (khit hs_5 kt_103) (by decide) (by decide) (off := 105) rfl (by decide) ?_
    refine r_iconst G (0 : Int32) dX3_isLetter_106 kc_0 ?_
    exact r_zretR G E kz_0 dX3_isLetter_107 ⟨kzo_0, h⟩
  replace h := h.2 hs_5
  rcases Classical.em (p0 = (104 : Int32)) with hs_6 | hs_6
  · replace h := h.1 hs_6
    refine r_tableIn G 106 dX3_isLetter_1 104 (khit hs_6 kt_104) (by decide) (by decide) (off := 105) rfl (by decide) ?_
    refine r_iconst G (0 : Int32) dX3_isLetter_106 kc_0 ?_
    exact r_zretR G E kz_0 dX3_isLetter_107 ⟨kzo_0, h⟩
  replace h := h.2 hs_6
  rcases Classical.em (p0 = (105 : Int32)) with hs_7 | hs_7
  · replace h := h.1 hs_7
    refine r_tableIn G 106 dX3_isLetter_1 105 (khit hs_7 kt_105) (by decide) (by decide) (off := 105) rfl (by decide) ?_
    refine r_iconst G (0 : Int32) dX3_isLetter_106 kc_0 ?_
    exact r_zretR G E kz_0 dX3_isLetter_107 ⟨kzo_0, h⟩
  replace h := h.2 hs_7
  rcases Classical.em (p0 = (106 : Int32)) with hs_8 | hs_8
  · replace h := h.1 hs_8
    refine r_tableIn G 106 dX3_isLetter_1 106 (khit hs_8 kt_106) (by decide) (by decide) (off := 105) rfl (by decide) ?_
    refine r_iconst G (0 : Int32) dX3_isLetter_106 kc_0 ?_
    exact r_zretR G E kz_0 dX3_isLetter_107 ⟨kzo_0, h⟩
  replace h := h.2 hs_8
  rcases Classical.em (p0 = (107 : Int32)) with hs_9 | hs_9
  · replace h := h.1 hs_9
    refine r_tableIn G 106 dX3_isLetter_1 107 (khit hs_9 kt_107) (by decide) (by decide) (off := 105) rfl (by decide) ?_
    refine r_iconst G (0 : Int32) dX3_isLetter_106 kc_0 ?_
    exact r_zretR G E kz_0 dX3_isLetter_107 ⟨kzo_0, h⟩
  replace h := h.2 hs_9
  rcases Classical.em (p0 = (108 : Int32)) with hs_10 | hs_10
  · replace h := h.1 hs_10
    refine r_tableIn G 106 dX3_isLetter_1 108 (khit hs_10 kt_108) (by decide) (by decide) (off := 105) rfl (by decide) ?_
    refine r_iconst G (0 : Int32) dX3_isLetter_106 kc_0 ?_
    exact r_zretR G E kz_0 dX3_isLetter_107 ⟨kzo_0, h⟩
  replace h := h.2 hs_10
  rcases Classical.em (p0 = (109 : Int32)) with hs_11 | hs_11
  · replace h := h.1 hs_11
    refine r_tableIn G 106 dX3_isLetter_1 109 (khit hs_11 kt_109) (by decide) (by decide) (off := 105) rfl (by decide) ?_
    refine r_iconst G (0 : Int32) dX3_isLetter_106 kc_0 ?_
    exact r_zretR G E kz_0 dX3_isLetter_107 ⟨kzo_0, h⟩
  replace h := h.2 hs_11
  rcases Classical.em (p0 = (110 : Int32)) with hs_12 | hs_12
  · replace h := h.1 hs_12
    refine r_tableIn G 106 dX3_isLetter_1 110 (khit hs_12 kt_110) (by decide) (by decide) (off := 105) rfl (by decide) ?_
    refine r_iconst G (0 : Int32) dX3_isLetter_106 kc_0 ?_
    exact r_zretR G E kz_0 dX3_isLetter_107 ⟨kzo_0, h⟩
  replace h := h.2 hs_12
  rcases Classical.em (p0 = (111 : Int32)) with hs_13 | hs_13
  · replace h := h.1 hs_13
    refine r_tableIn G 104 dX3_isLetter_1 111 (khit hs_13 kt_111) (by decide) (by decide) (off := 103) rfl (by decide) ?_
    refine r_iconst G (1 : Int32) dX3_isLetter_104 kc_1 ?_
    exact r_zretR G E kz_1 dX3_isLetter_105 ⟨kzo_1, h⟩
  replace h := h.2 hs_13
  rcases Classical.em (p0 = (112 : Int32)) with hs_14 | hs_14
  · replace h := h.1 hs_14
    refine r_tableIn G 106 dX3_isLetter_1 112 (khit hs_14 kt_112) (by decide) (by decide) (off := 105) rfl (by decide) ?_
    refine r_iconst G (0 : Int32) dX3_isLetter_106 kc_0 ?_
    exact r_zretR G E kz_0 dX3_isLetter_107 ⟨kzo_0, h⟩
  replace h := h.2 hs_14
  rcases Classical.em (p0 = (113 : Int32)) with hs_15 | hs_15
  · replace h := h.1 hs_15
    refine r_tableIn G 106 dX3_isLetter_1 113 (khit hs_15 kt_113) (by decide) (by decide) (off := 105) rfl (by decide) ?_
    refine r_iconst G (0 : Int32) dX3_isLetter_106 kc_0 ?_
    exact r_zretR G E kz_0 dX3_isLetter_107 ⟨kzo_0, h⟩
  replace h := h.2 hs_15
  rcases Classical.em (p0 = (114 : Int32)) with hs_16 | hs_16
  · replace h := h.1 hs_16
    refine r_tableIn G 106 dX3_isLetter_1 114 (khit hs_16 kt_114) (by decide) (by decide) (off := 105) rfl (by decide) ?_
    refine r_iconst G (0 : Int32) dX3_isLetter_106 kc_0 ?_
    exact r_zretR G E kz_0 dX3_isLetter_107 ⟨kzo_0, h⟩
  replace h := h.2 hs_16
  rcases Classical.em (p0 = (115 : Int32)) with hs_17 | hs_17
  · replace h := h.1 hs_17
    refine r_tableIn G 104 dX3_isLetter_1 115 (khit hs_17 kt_115) (by decide) (by decide) (off := 103) rfl (by decide) ?_
    refine r_iconst G (1 : Int32) dX3_isLetter_104 kc_1 ?_
    exact r_zretR G E kz_1 dX3_isLetter_105 ⟨kzo_1, h⟩
  replace h := h.2 hs_17
  rcases Classical.em (p0 = (116 : Int32)) with hs_18 | hs_18
  · replace h := h.1 hs_18
    refine r_tableIn G 104 dX3_isLetter_1 116 (khit hs_18 kt_116) (by decide) (by decide) (off := 103) rfl (by decide) ?_
    refine r_iconst G (1 : Int32) dX3_isLetter_104 kc_1 ?_
    exact r_zretR G E kz_1 dX3_isLetter_105 ⟨kzo_1, h⟩
  replace h := h.2 hs_18
  rcases Classical.em (p0 = (117 : Int32)) with hs_19 | hs_19
  · replace h := h.1 hs_19
    refine r_tableIn G 106 dX3_isLetter_1 117 (khit hs_19 kt_117) (by decide) (by decide) (off := 105) rfl (by decide) ?_
    refine r_iconst G (0 : Int32) dX3_isLetter_106 kc_0 ?_
    exact r_zretR G E kz_0 dX3_isLetter_107 ⟨kzo_0, h⟩
  replace h := h.2 hs_19
  rcases Classical.em (p0 = (118 : Int32)) with hs_20 | hs_20
  · replace h := h.1 hs_20
    refine r_tableIn G 106 dX3_isLetter_1 118 (khit hs_20 kt_118) (by decide) (by decide) (off := 105) rfl (by decide) ?_
    refine r_iconst G (0 : Int32) dX3_isLetter_106 kc_0 ?_
    exact r_zretR G E kz_0 dX3_isLetter_107 ⟨kzo_0, h⟩
  replace h := h.2 hs_20
  rcases Classical.em (p0 = (119 : Int32)) with hs_21 | hs_21
  · replace h := h.1 hs_21
    refine r_tableIn G 104 dX3_isLetter_1 119 (khit hs_21 kt_119) (by decide) (by decide) (off := 103) rfl (by decide) ?_
    refine r_iconst G (1 : Int32) dX3_isLetter_104 kc_1 ?_
    exact r_zretR G E kz_1 dX3_isLetter_105 ⟨kzo_1, h⟩
  replace h := h.2 hs_21
  refine r_tableOut G 106 dX3_isLetter_1 (by have z0 := lv_neT hs_0 kt_98; have z1 := lv_neT hs_1 kt_99; have z2 := lv_neT hs_2 kt_100; have z3 := lv_neT hs_3 kt_101; have z4 := lv_neT hs_4 kt_102; have z5 := lv_neT hs_5 kt_103; have z6 := lv_neT hs_6 kt_104; have z7 := lv_neT hs_7 kt_105; have z8 := lv_neT hs_8 kt_106; have z9 := lv_neT hs_9 kt_107; have z10 := lv_neT hs_10 kt_108; have z11 := lv_neT hs_11 kt_109; have z12 := lv_neT hs_12 kt_110; have z13 := lv_neT hs_13 kt_111; have z14 := lv_neT hs_14 kt_112; have z15 := lv_neT hs_15 kt_113; have z16 := lv_neT hs_16 kt_114; have z17 := lv_neT hs_17 kt_115; have z18 := lv_neT hs_18 kt_116; have z19 := lv_neT hs_19 kt_117; have z20 := lv_neT hs_20 kt_118; have z21 := lv_neT hs_21 kt_119; omega) (by decide) ?_
  refine r_iconst G (0 : Int32) dX3_isLetter_106 kc_0 ?_
  exact r_zretR G E kz_0 dX3_isLetter_107 ⟨kzo_0, h⟩
abbrev rm_X6_highestBend : Room := { frames := 0, cells := 0, slots := 0, locals := 0 }
def wp_X6_highestBend (p0 : Int32) (Q : Int32 → Prop) : Prop :=
  ((p0 = 0 → Q (22 : Int32)) ∧ (¬ p0 = 0 → ((p0 = (1 : Int32) → Q (22 : Int32)) ∧ (¬ p0 = (1 : Int32) → ((p0 = (2 : Int32) → Q (7 : Int32)) ∧ (¬ p0 = (2 : Int32) → ((p0 = (3 : Int32) → Q (7 : Int32)) ∧ (¬ p0 = (3 : Int32) → Q (1 : Int32)))))))))
theorem hd_X6_highestBend : yX6_highestBend.cls ≠ "java/lang/invoke/MethodHandle" ∧ yX6_highestBend.cls ≠ "java/lang/invoke/VarHandle" ∧ (parseMethodDescriptor yX6_highestBend.desc).map (fun d => d.parameters.length) = some 1 := by decide +kernel
theorem hdv_X6_highestBend : yX6_highestBend.cls = RX6 ∧ yX6_highestBend.cls ≠ "java/lang/invoke/MethodHandle" ∧ yX6_highestBend.cls ≠ "java/lang/invoke/VarHandle" ∧ (parseMethodDescriptor yX6_highestBend.desc).map (fun d => d.parameters.length) = some 1 := ⟨rfl, hd_X6_highestBend⟩
set_option maxHeartbeats 4000000 in
set_option maxRecDepth 100000 in
theorem c_X6_highestBend (l : Launch) (D : va_G)  (p0 : Int32) (Q : Int32 → Prop) (h : wp_X6_highestBend p0 Q) : Met l yX6_highestBend wsX6_highestBend rm_X6_highestBend (k_PR D [] wE k_0 [.int p0]) (vp_Si Q) 0 0 (fun _ => False) := by
  refine k_metR (by decide) rfl (Nat.le_of_ble_eq_true rfl) ?_
  intro Γ G E
  unfold wp_X6_highestBend at h
  show k_J Γ rm_X6_highestBend 1 true wE 0 [(0, .int p0)] [] k_0
  refine r_iload_n G dX6_highestBend_0 0 rfl rfl ?_
  refine r_if_eq G 9 dX6_highestBend_1 (by decide) (fun hc => ?_) (fun hc => ?_)
  · replace h := h.1 hc
    refine r_bipush G (22 : Int32) dX6_highestBend_9 kb_22 ?_
    exact r_iretR G E dX6_highestBend_11 h
  · replace h := h.2 hc
    refine r_iload_n G dX6_highestBend_4 0 rfl rfl ?_
    refine r_iconst G (1 : Int32) dX6_highestBend_5 kc_1 ?_
    refine r_icmp_ne G 12 dX6_highestBend_6 (by decide) (fun hc => ?_) (fun hc => ?_)
    · replace h := h.2 hc
      refine r_iload_n G dX6_highestBend_12 0 rfl rfl ?_
      refine r_iconst G (2 : Int32) dX6_highestBend_13 kc_2 ?_
      refine r_icmp_eq G 22 dX6_highestBend_14 (by decide) (fun hc => ?_) (fun hc => ?_)
      · replace h := h.1 hc
        refine r_bipush G (7 : Int32) dX6_highestBend_22 kb_7 ?_
        refine r_goto G 28 dX6_highestBend_24 (by decide) ?_
        exact r_iretR G E dX6_highestBend_28 h
      · replace h := h.2 hc
        refine r_iload_n G dX6_highestBend_17 0 rfl rfl ?_
        refine r_iconst G (3 : Int32) dX6_highestBend_18 kc_3 ?_
        refine r_icmp_ne G 27 dX6_highestBend_19 (by decide) (fun hc => ?_) (fun hc => ?_)
        · replace h := h.2 hc
          refine r_iconst G (1 : Int32) dX6_highestBend_27 kc_1 ?_
          exact r_iretR G E dX6_highestBend_28 h
        · replace h := h.1 hc
          refine r_bipush G (7 : Int32) dX6_highestBend_22 kb_7 ?_
          refine r_goto G 28 dX6_highestBend_24 (by decide) ?_
          exact r_iretR G E dX6_highestBend_28 h
    · replace h := h.1 hc
      refine r_bipush G (22 : Int32) dX6_highestBend_9 kb_22 ?_
      exact r_iretR G E dX6_highestBend_11 h
abbrev rm_X6_isValue : Room := { frames := 0, cells := 0, slots := 0, locals := 0 }
def wp_X6_isValue (p0 : Int32) (Q : Int32 → Prop) : Prop :=
  ((p0 < 0 → Q (0 : Int32)) ∧ (¬ p0 < 0 → (((23 : Int32) ≤ p0 → Q (0 : Int32)) ∧ (¬ (23 : Int32) ≤ p0 → Q (1 : Int32)))))
theorem hd_X6_isValue : yX6_isValue.cls ≠ "java/lang/invoke/MethodHandle" ∧ yX6_isValue.cls ≠ "java/lang/invoke/VarHandle" ∧ (parseMethodDescriptor yX6_isValue.desc).map (fun d => d.parameters.length) = some 1 := by decide +kernel
theorem hdv_X6_isValue : yX6_isValue.cls = RX6 ∧ yX6_isValue.cls ≠ "java/lang/invoke/MethodHandle" ∧ yX6_isValue.cls ≠ "java/lang/invoke/VarHandle" ∧ (parseMethodDescriptor yX6_isValue.desc).map (fun d => d.parameters.length) = some 1 := ⟨rfl, hd_X6_isValue⟩
set_option maxHeartbeats 4000000 in
set_option maxRecDepth 100000 in
theorem c_X6_isValue (l : Launch) (D : va_G)  (p0 : Int32) (Q : Int32 → Prop) (h : wp_X6_isValue p0 Q) : Met l yX6_isValue wsX6_isValue rm_X6_isValue (k_PR D [] wE k_0 [.int p0]) (vp_Si (fun r => (r = 0 ∨ r = 1) ∧ Q r)) 0 0 (fun _ => False) := by
  refine k_metR (by decide) rfl (Nat.le_of_ble_eq_true rfl) ?_
  intro Γ G E
  unfold wp_X6_isValue at h
  show k_J Γ rm_X6_isValue 1 true wE 0 [(0, .int p0)] [] k_0
  refine r_iload_n G dX6_isValue_0 0 rfl rfl ?_
  refine r_if_lt G 14 dX6_isValue_1 (by decide) (fun hc => ?_) (fun hc => ?_)
  · replace h := h.1 hc
    refine r_iconst G (0 : Int32) dX6_isValue_14 kc_0 ?_
    exact r_zretR G E kz_0 dX6_isValue_15 ⟨kzo_0, h⟩
  · replace h := h.2 hc
    refine r_iload_n G dX6_isValue_4 0 rfl rfl ?_
    refine r_bipush G (23 : Int32) dX6_isValue_5 kb_23 ?_
    refine r_icmp_ge G 14 dX6_isValue_7 (by decide) (fun hc => ?_) (fun hc => ?_)
    · replace h := h.1 hc
      refine r_iconst G (0 : Int32) dX6_isValue_14 kc_0 ?_
      exact r_zretR G E kz_0 dX6_isValue_15 ⟨kzo_0, h⟩
    · replace h := h.2 hc
      refine r_iconst G (1 : Int32) dX6_isValue_10 kc_1 ?_
      refine r_goto G 15 dX6_isValue_11 (by decide) ?_
      exact r_zretR G E kz_1 dX6_isValue_15 ⟨kzo_1, h⟩
abbrev rm_X7_leastOf : Room := { frames := 0, cells := 0, slots := 0, locals := 0 }
def wp_X7_leastOf (p0 : Int32) (Q : Int32 → Prop) : Prop :=
  ((p0 = (98 : Int32) → Q (3 : Int32)) ∧ (¬ p0 = (98 : Int32) → ((p0 = (99 : Int32) → Q (0 : Int32)) ∧ (¬ p0 = (99 : Int32) → ((p0 = (100 : Int32) → Q (2 : Int32)) ∧ (¬ p0 = (100 : Int32) → ((p0 = (101 : Int32) → Q (0 : Int32)) ∧ (¬ p0 = (101 : Int32) → ((p0 = (102 : Int32) → Q (1 : Int32)) ∧ (¬ p0 = (102 : Int32) → ((p0 = (103 : Int32) → Q (0 : Int32)) ∧ (¬ p0 = (103 : Int32) → ((p0 = (104 : Int32) → Q (0 : Int32)) ∧ (¬ p0 = (104 : Int32) → ((p0 = (105 : Int32) → Q (0 : Int32)) ∧ (¬ p0 = (105 : Int32) → ((p0 = (106 : Int32) → Q (0 : Int32)) ∧ (¬ p0 = (106 : Int32) → ((p0 = (107 : Int32) → Q (0 : Int32)) ∧ (¬ p0 = (107 : Int32) → ((p0 = (108 : Int32) → Q (0 : Int32)) ∧ (¬ p0 = (108 : Int32) → ((p0 = (109 : Int32) → Q (0 : Int32)) ∧ (¬ p0 = (109 : Int32) → ((p0 = (110 : Int32) → Q (0 : Int32)) ∧ (¬ p0 = (110 : Int32) → ((p0 = (111 : Int32) → Q (2 : Int32)) ∧ (¬ p0 = (111 : Int32) → ((p0 = (112 : Int32) → Q (0 : Int32)) ∧ (¬ p0 = (112 : Int32) → ((p0 = (113 : Int32) → Q (0 : Int32)) ∧ (¬ p0 = (113 : Int32) → ((p0 = (114 : Int32) → Q (0 : Int32)) ∧ (¬ p0 = (114 : Int32) → ((p0 = (115 : Int32) → Q (2 : Int32)) ∧ (¬ p0 = (115 : Int32) → ((p0 = (116 : Int32) → Q (3 : Int32)) ∧ (¬ p0 = (116 : Int32) → ((p0 = (117 : Int32) → Q (0 : Int32)) ∧ (¬ p0 = (117 : Int32) → ((p0 = (118 : Int32) → Q (0 : Int32)) ∧ (¬ p0 = (118 : Int32) → ((p0 = (119 : Int32) → Q (2 : Int32)) ∧ (¬ p0 = (119 : Int32) → Q (0 : Int32)))))))))))))))))))))))))))))))))))))))))))))
theorem hd_X7_leastOf : yX7_leastOf.cls ≠ "java/lang/invoke/MethodHandle" ∧ yX7_leastOf.cls ≠ "java/lang/invoke/VarHandle" ∧ (parseMethodDescriptor yX7_leastOf.desc).map (fun d => d.parameters.length) = some 1 := by decide +kernel
theorem hdv_X7_leastOf : yX7_leastOf.cls = RX7 ∧ yX7_leastOf.cls ≠ "java/lang/invoke/MethodHandle" ∧ yX7_leastOf.cls ≠ "java/lang/invoke/VarHandle" ∧ (parseMethodDescriptor yX7_leastOf.desc).map (fun d => d.parameters.length) = some 1 := ⟨rfl, hd_X7_leastOf⟩
set_option maxHeartbeats 4000000 in
set_option maxRecDepth 100000 in
theorem c_X7_leastOf (l : Launch) (D : va_G)  (p0 : Int32) (Q : Int32 → Prop) (h : wp_X7_leastOf p0 Q) : Met l yX7_leastOf wsX7_leastOf rm_X7_leastOf (k_PR D [] wE k_0 [.int p0]) (vp_Si Q) 0 0 (fun _ => False) := by
  refine k_metR (by decide) rfl (Nat.le_of_ble_eq_true rfl) ?_
  intro Γ G E
  unfold wp_X7_leastOf at h
  show k_J Γ rm_X7_leastOf 1 true wE 0 [(0, .int p0)] [] k_0
  refine r_iload_n G dX7_leastOf_0 0 rfl rfl ?_
  rcases Classical.em (p0 = (98 : Int32)) with hs_0 | hs_0
  · replace h := h.1 hs_0
    refine r_tableIn G 108 dX7_leastOf_1 98 (khit hs_0 kt_98) (by decide) (by decide) (off := 107) rfl (by decide) ?_
    refine r_iconst G (3 : Int32) dX7_leastOf_108 kc_3 ?_
    exact r_iretR G E dX7_leastOf_109 h
  replace h := h.2 hs_0
  rcases Classical.em (p0 = (99 : Int32)) with hs_1 | hs_1
  · replace h := h.1 hs_1
    refine r_tableIn G 110 dX7_leastOf_1 99 (khit hs_1 kt_99) (by decide) (by decide) (off := 109) rfl (by decide) ?_
    refine r_iconst G (0 : Int32) dX7_leastOf_110 kc_0 ?_
    exact r_iretR G E dX7_leastOf_111 h
  replace h := h.2 hs_1
  rcases Classical.em (p0 = (100 : Int32)) with hs_2 | hs_2
  · replace h := h.1 hs_2
    refine r_tableIn G 106 dX7_leastOf_1 100 (khit hs_2 kt_100) (by decide) (by decide) (off := 105) rfl (by decide) ?_
    refine r_iconst G (2 : Int32) dX7_leastOf_106 kc_2 ?_
    exact r_iretR G E dX7_leastOf_107 h
  replace h := h.2 hs_2
  rcases Classical.em (p0 = (101 : Int32)) with hs_3 | hs_3
  · replace h := h.1 hs_3
    refine r_tableIn G 110 dX7_leastOf_1 101 (khit hs_3 kt_101) (by decide) (by decide) (off := 109) rfl (by decide) ?_
    refine r_iconst G (0 : Int32) dX7_leastOf_110 kc_0 ?_
    exact r_iretR G E dX7_leastOf_111 h
  replace h := h.2 hs_3
  rcases Classical.em (p0 = (102 : Int32)) with hs_4 | hs_4
  · replace h := h.1 hs_4
    refine r_tableIn G 104 dX7_leastOf_1 102 (khit hs_4 kt_102) (by decide) (by decide) (off := 103) rfl (by decide) ?_
    refine r_iconst G (1 : Int32) dX7_leastOf_104 kc_1 ?_
    exact r_iretR G E dX7_leastOf_105 h
  replace h := h.2 hs_4
  rcases Classical.em (p0 = (103 : Int32)) with hs_5 | hs_5
  · replace h := h.1 hs_5
    refine r_tableIn G 110 dX7_leastOf_1 103 (khit hs_5 kt_103) (by decide) (by decide) (off := 109) rfl (by decide) ?_
    refine r_iconst G (0 : Int32) dX7_leastOf_110 kc_0 ?_
    exact r_iretR G E dX7_leastOf_111 h
  replace h := h.2 hs_5
  rcases Classical.em (p0 = (104 : Int32)) with hs_6 | hs_6
  · replace h := h.1 hs_6
    refine r_tableIn G 110 dX7_leastOf_1 104 (khit hs_6 kt_104) (by decide) (by decide) (off := 109) rfl (by decide) ?_
    refine r_iconst G (0 : Int32) dX7_leastOf_110 kc_0 ?_
    exact r_iretR G E dX7_leastOf_111 h
  replace h := h.2 hs_6
  rcases Classical.em (p0 = (105 : Int32)) with hs_7 | hs_7
  · replace h := h.1 hs_7
    refine r_tableIn G 110 dX7_leastOf_1 105 (khit hs_7 kt_105) (by decide) (by decide) (off := 109) rfl (by decide) ?_
    refine r_iconst G (0 : Int32) dX7_leastOf_110 kc_0 ?_
    exact r_iretR G E dX7_leastOf_111 h
  replace h := h.2 hs_7
  rcases Classical.em (p0 = (106 : Int32)) with hs_8 | hs_8
  · replace h := h.1 hs_8
    refine r_tableIn G 110 dX7_leastOf_1 106 (khit hs_8 kt_106) (by decide) (by decide) (off := 109) rfl (by decide) ?_
    refine r_iconst G (0 : Int32) dX7_leastOf_110 kc_0 ?_
    exact r_iretR G E dX7_leastOf_111 h
  replace h := h.2 hs_8
  rcases Classical.em (p0 = (107 : Int32)) with hs_9 | hs_9
  · replace h := h.1 hs_9
    refine r_tableIn G 110 dX7_leastOf_1 107 (khit hs_9 kt_107) (by decide) (by decide) (off := 109) rfl (by decide) ?_
    refine r_iconst G (0 : Int32) dX7_leastOf_110 kc_0 ?_
    exact r_iretR G E dX7_leastOf_111 h
  replace h := h.2 hs_9
  rcases Classical.em (p0 = (108 : Int32)) with hs_10 | hs_10
  · replace h := h.1 hs_10
    refine r_tableIn G 110 dX7_leastOf_1 108 (khit hs_10 kt_108) (by decide) (by decide) (off := 109) rfl (by decide) ?_
    refine r_iconst G (0 : Int32) dX7_leastOf_110 kc_0 ?_
    exact r_iretR G E dX7_leastOf_111 h
  replace h := h.2 hs_10
  rcases Classical.em (p0 = (109 : Int32)) with hs_11 | hs_11
  · replace h := h.1 hs_11
    refine r_tableIn G 110 dX7_leastOf_1 109 (khit hs_11 kt_109) (by decide) (by decide) (off := 109) rfl (by decide) ?_
    refine r_iconst G (0 : Int32) dX7_leastOf_110 kc_0 ?_
    exact r_iretR G E dX7_leastOf_111 h
  replace h := h.2 hs_11
  rcases Classical.em (p0 = (110 : Int32)) with hs_12 | hs_12
  · replace h := h.1 hs_12
    refine r_tableIn G 110 dX7_leastOf_1 110 (khit hs_12 kt_110) (by decide) (by decide) (off := 109) rfl (by decide) ?_
    refine r_iconst G (0 : Int32) dX7_leastOf_110 kc_0 ?_
    exact r_iretR G E dX7_leastOf_111 h
  replace h := h.2 hs_12
  rcases Classical.em (p0 = (111 : Int32)) with hs_13 | hs_13
  · replace h := h.1 hs_13
    refine r_tableIn G 106 dX7_leastOf_1 111 (khit hs_13 kt_111) (by decide) (by decide) (off := 105) rfl (by decide) ?_
    refine r_iconst G (2 : Int32) dX7_leastOf_106 kc_2 ?_
    exact r_iretR G E dX7_leastOf_107 h
  replace h := h.2 hs_13
  rcases Classical.em (p0 = (112 : Int32)) with hs_14 | hs_14
  · replace h := h.1 hs_14
    refine r_tableIn G 110 dX7_leastOf_1 112 (khit hs_14 kt_112) (by decide) (by decide) (off := 109) rfl (by decide) ?_
    refine r_iconst G (0 : Int32) dX7_leastOf_110 kc_0 ?_
    exact r_iretR G E dX7_leastOf_111 h
  replace h := h.2 hs_14
  rcases Classical.em (p0 = (113 : Int32)) with hs_15 | hs_15
  · replace h := h.1 hs_15
    refine r_tableIn G 110 dX7_leastOf_1 113 (khit hs_15 kt_113) (by decide) (by decide) (off := 109) rfl (by decide) ?_
    refine r_iconst G (0 : Int32) dX7_leastOf_110 kc_0 ?_
    exact r_iretR G E dX7_leastOf_111 h
  replace h := h.2 hs_15
  rcases Classical.em (p0 = (114 : Int32)) with hs_16 | hs_16
  · replace h := h.1 hs_16
    refine r_tableIn G 110 dX7_leastOf_1 114 (khit hs_16 kt_114) (by decide) (by decide) (off := 109) rfl (by decide) ?_
    refine r_iconst G (0 : Int32) dX7_leastOf_110 kc_0 ?_
    exact r_iretR G E dX7_leastOf_111 h
  replace h := h.2 hs_16
  rcases Classical.em (p0 = (115 : Int32)) with hs_17 | hs_17
  · replace h := h.1 hs_17
    refine r_tableIn G 106 dX7_leastOf_1 115 (khit hs_17 kt_115) (by decide) (by decide) (off := 105) rfl (by decide) ?_
    refine r_iconst G (2 : Int32) dX7_leastOf_106 kc_2 ?_
    exact r_iretR G E dX7_leastOf_107 h
  replace h := h.2 hs_17
  rcases Classical.em (p0 = (116 : Int32)) with hs_18 | hs_18
  · replace h := h.1 hs_18
    refine r_tableIn G 108 dX7_leastOf_1 116 (khit hs_18 kt_116) (by decide) (by decide) (off := 107) rfl (by decide) ?_
    refine r_iconst G (3 : Int32) dX7_leastOf_108 kc_3 ?_
    exact r_iretR G E dX7_leastOf_109 h
  replace h := h.2 hs_18
  rcases Classical.em (p0 = (117 : Int32)) with hs_19 | hs_19
  · replace h := h.1 hs_19
    refine r_tableIn G 110 dX7_leastOf_1 117 (khit hs_19 kt_117) (by decide) (by decide) (off := 109) rfl (by decide) ?_
    refine r_iconst G (0 : Int32) dX7_leastOf_110 kc_0 ?_
    exact r_iretR G E dX7_leastOf_111 h
  replace h := h.2 hs_19
  rcases Classical.em (p0 = (118 : Int32)) with hs_20 | hs_20
  · replace h := h.1 hs_20
    refine r_tableIn G 110 dX7_leastOf_1 118 (khit hs_20 kt_118) (by decide) (by decide) (off := 109) rfl (by decide) ?_
    refine r_iconst G (0 : Int32) dX7_leastOf_110 kc_0 ?_
    exact r_iretR G E dX7_leastOf_111 h
  replace h := h.2 hs_20
  rcases Classical.em (p0 = (119 : Int32)) with hs_21 | hs_21
  · replace h := h.1 hs_21
    refine r_tableIn G 106 dX7_leastOf_1 119 (khit hs_21 kt_119) (by decide) (by decide) (off := 105) rfl (by decide) ?_
    refine r_iconst G (2 : Int32) dX7_leastOf_106 kc_2 ?_
    exact r_iretR G E dX7_leastOf_107 h
  replace h := h.2 hs_21
  refine r_tableOut G 110 dX7_leastOf_1 (by have z0 := lv_neT hs_0 kt_98; have z1 := lv_neT hs_1 kt_99; have z2 := lv_neT hs_2 kt_100; have z3 := lv_neT hs_3 kt_101; have z4 := lv_neT hs_4 kt_102; have z5 := lv_neT hs_5 kt_103; have z6 := lv_neT hs_6 kt_104; have z7 := lv_neT hs_7 kt_105; have z8 := lv_neT hs_8 kt_106; have z9 := lv_neT hs_9 kt_107; have z10 := lv_neT hs_10 kt_108; have z11 := lv_neT hs_11 kt_109; have z12 := lv_neT hs_12 kt_110; have z13 := lv_neT hs_13 kt_111; have z14 := lv_neT hs_14 kt_112; have z15 := lv_neT hs_15 kt_113; have z16 := lv_neT hs_16 kt_114; have z17 := lv_neT hs_17 kt_115; have z18 := lv_neT hs_18 kt_116; have z19 := lv_neT hs_19 kt_117; have z20 := lv_neT hs_20 kt_118; have z21 := lv_neT hs_21 kt_119; omega) (by decide) ?_
  refine r_iconst G (0 : Int32) dX7_leastOf_110 kc_0 ?_
  exact r_iretR G E dX7_leastOf_111 h
abbrev rm_X7_in : Room := { frames := 0, cells := 0, slots := 0, locals := 0 }
def wp_X7_in (p0 p1 p2 : Int32) (Q : Int32 → Prop) : Prop :=
  ((p0 < p1 → Q (0 : Int32)) ∧ (¬ p0 < p1 → ((p2 < p0 → Q (0 : Int32)) ∧ (¬ p2 < p0 → Q (1 : Int32)))))
theorem hd_X7_in : yX7_in.cls ≠ "java/lang/invoke/MethodHandle" ∧ yX7_in.cls ≠ "java/lang/invoke/VarHandle" ∧ (parseMethodDescriptor yX7_in.desc).map (fun d => d.parameters.length) = some 3 := by decide +kernel
theorem hdv_X7_in : yX7_in.cls = RX7 ∧ yX7_in.cls ≠ "java/lang/invoke/MethodHandle" ∧ yX7_in.cls ≠ "java/lang/invoke/VarHandle" ∧ (parseMethodDescriptor yX7_in.desc).map (fun d => d.parameters.length) = some 3 := ⟨rfl, hd_X7_in⟩
set_option maxHeartbeats 4000000 in
set_option maxRecDepth 100000 in
theorem c_X7_in (l : Launch) (D : va_G)  (p0 p1 p2 : Int32) (Q : Int32 → Prop) (h : wp_X7_in p0 p1 p2 Q) : Met l yX7_in wsX7_in rm_X7_in (k_PR D [] wE k_0 [.int p0, .int p1, .int p2]) (vp_Si (fun r => (r = 0 ∨ r = 1) ∧ Q r)) 0 0 (fun _ => False) := by
  refine k_metR (by decide) rfl (Nat.le_of_ble_eq_true rfl) ?_
  intro Γ G E
  unfold wp_X7_in at h
  show k_J Γ rm_X7_in 3 true wE 0 [(0, .int p0), (1, .int p1), (2, .int p2)] [] k_0
  refine r_iload_n G dX7_in_0 0 rfl rfl ?_
  refine r_iload_n G dX7_in_1 1 rfl rfl ?_
  refine r_icmp_lt G 14 dX7_in_2 (by decide) (fun hc => ?_) (fun hc => ?_)
  · replace h := h.1 hc
    refine r_iconst G (0 : Int32) dX7_in_14 kc_0 ?_
    exact r_zretR G E kz_0 dX7_in_15 ⟨kzo_0, h⟩
  · replace h := h.2 hc
    refine r_iload_n G dX7_in_5 0 rfl rfl ?_
    refine r_iload_n G dX7_in_6 2 rfl rfl ?_
    refine r_icmp_gt G 14 dX7_in_7 (by decide) (fun hc => ?_) (fun hc => ?_)
    · replace h := h.1 hc
      refine r_iconst G (0 : Int32) dX7_in_14 kc_0 ?_
      exact r_zretR G E kz_0 dX7_in_15 ⟨kzo_0, h⟩
    · replace h := h.2 hc
      refine r_iconst G (1 : Int32) dX7_in_10 kc_1 ?_
      refine r_goto G 15 dX7_in_11 (by decide) ?_
      exact r_zretR G E kz_1 dX7_in_15 ⟨kzo_1, h⟩
abbrev rm_X7_isMember : Room := { frames := 1, cells := 0, slots := 0, locals := 22 }
def wp_X7_isMember (p0 : Int32) (Q : Int32 → Prop) : Prop :=
  wp_X7_in p0 (1 : Int32) (7 : Int32) (fun (r_4 : Int32) => Q r_4)
theorem hd_X7_isMember : yX7_isMember.cls ≠ "java/lang/invoke/MethodHandle" ∧ yX7_isMember.cls ≠ "java/lang/invoke/VarHandle" ∧ (parseMethodDescriptor yX7_isMember.desc).map (fun d => d.parameters.length) = some 1 := by decide +kernel
theorem hdv_X7_isMember : yX7_isMember.cls = RX7 ∧ yX7_isMember.cls ≠ "java/lang/invoke/MethodHandle" ∧ yX7_isMember.cls ≠ "java/lang/invoke/VarHandle" ∧ (parseMethodDescriptor yX7_isMember.desc).map (fun d => d.parameters.length) = some 1 := ⟨rfl, hd_X7_isMember⟩
set_option maxHeartbeats 4000000 in
set_option maxRecDepth 100000 in
theorem c_X7_isMember (l : Launch) (D : va_G)  (p0 : Int32) (Q : Int32 → Prop) (h : wp_X7_isMember p0 Q) : Met l yX7_isMember wsX7_isMember rm_X7_isMember (k_PR D [] wE k_0 [.int p0]) (vp_Si (fun r => (r = 0 ∨ r = 1) ∧ Q r)) 0 0 (fun _ => False) := by
  refine k_metR (by decide) rfl (Nat.le_of_ble_eq_true rfl) ?_
  intro Γ G E
  unfold wp_X7_isMember at h
  show k_J Γ rm_X7_isMember 1 true wE 0 [(0, .int p0)] [] k_0
  refine r_iload_n G dX7_isMember_0 0 rfl rfl ?_
  refine r_iconst G (1 : Int32) dX7_isMember_1 kc_1 ?_
  refine r_bipush G (7 : Int32) dX7_isMember_2 kb_7 ?_
  refine r_cSR G [.int p0, .int (1 : Int32), .int (7 : Int32)] [] (c_X7_in (k_l Γ) (k_D Γ) _ _ _ _ h) (va_cwS 3 G.2.2.2.2.1 gX7_isMember_X7_in rfl rfl rfl hd_X7_in ⟨Nat.le_of_ble_eq_true rfl, Nat.le_of_ble_eq_true rfl⟩) [] rfl (fun _ _ => k_E0) rfl rfl (Nat.le_of_ble_eq_true rfl) dX7_isMember_4 (fun r_4 h => ?_)
  have hz_4 := h.1
  replace h := h.2
  exact r_zretR G E (kz_of hz_4) dX7_isMember_7 ⟨hz_4, h⟩
abbrev rm_X7_power : Room := { frames := 0, cells := 0, slots := 0, locals := 0 }
def wp_X7_power (p0 p1 p2 : Int32) (Q : Int32 → Prop) : Prop :=
  (k_lp2 (fun (B_5 : Int32 → Int32 → Prop) (x3_5 : Int32) (x4_5 : Int32) => B_5 x3_5 x4_5) (1 : Int32) (0 : Int32))
theorem hd_X7_power : yX7_power.cls ≠ "java/lang/invoke/MethodHandle" ∧ yX7_power.cls ≠ "java/lang/invoke/VarHandle" ∧ (parseMethodDescriptor yX7_power.desc).map (fun d => d.parameters.length) = some 3 := by decide +kernel
theorem hdv_X7_power : yX7_power.cls = RX7 ∧ yX7_power.cls ≠ "java/lang/invoke/MethodHandle" ∧ yX7_power.cls ≠ "java/lang/invoke/VarHandle" ∧ (parseMethodDescriptor yX7_power.desc).map (fun d => d.parameters.length) = some 3 := ⟨rfl, hd_X7_power⟩
set_option maxHeartbeats 4000000 in
set_option maxRecDepth 100000 in
theorem c_X7_power (l : Launch) (D : va_G)  (p0 p1 p2 : Int32) (Q : Int32 → Prop) (h : wp_X7_power p0 p1 p2 Q) : Met l yX7_power wsX7_power rm_X7_power (k_PR D [] wE k_0 [.int p0, .int p1, .int p2]) (vp_Si Q) 0 0 (fun _ => False) := by
  refine k_metR (by decide) rfl (Nat.le_of_ble_eq_true rfl) ?_
  intro Γ G E
  unfold wp_X7_power at h
  show k_J Γ rm_X7_power 5 true wE 0 [(0, .int p0), (1, .int p1), (2, .int p2)] [] k_0
  refine r_iconst G (1 : Int32) dX7_power_0 kc_1 ?_
  refine r_istore_n (lv' := [(3, .int (1 : Int32)), (0, .int p0), (1, .int p1), (2, .int p2)]) G dX7_power_1 rfl (by decide) rfl ?_
  refine r_iconst G (0 : Int32) dX7_power_2 kc_0 ?_
  refine r_istore (lv' := [(4, .int (0 : Int32)), (3, .int (1 : Int32)), (0, .int p0), (1, .int p1), (2, .int p2)]) G dX7_power_3 (by decide) rfl ?_
  obtain ⟨I_5, n_5, h, hI_5⟩ := h
  have key_5 : ∀ (n : Nat) (x3_5 : Int32) (x4_5 : Int32), I_5 n x3_5 x4_5 → k_J Γ rm_X7_power 5 true wE 5 [(0, .int p0), (1, .int p1), (2, .int p2), (3, .int x3_5), (4, .int x4_5)] [] k_0 := by
    intro n
    induction n using Nat.strongRecOn with
    | ind n ih_5 =>
      intro x3_5 x4_5 h
      replace h := hI_5 n x3_5 x4_5 h
      obtain ⟨m_5, hm_5, h⟩ := h
      exact r_sub [0, 1, 2, 3, 4] rfl (ih_5 m_5 hm_5 _ _ h)
  exact r_sub [2, 3, 4, 1, 0] rfl (key_5 n_5 _ _ h)
abbrev rm_X7_sealOf : Room := { frames := 1, cells := 0, slots := 0, locals := 24 }
def wp_X7_sealOf (p0 : Int32) (Q : Int32 → Prop) : Prop :=
  wp_X7_power (4 : Int32) p0 (47 : Int32) (fun (r_4 : Int32) => Q r_4)
theorem hd_X7_sealOf : yX7_sealOf.cls ≠ "java/lang/invoke/MethodHandle" ∧ yX7_sealOf.cls ≠ "java/lang/invoke/VarHandle" ∧ (parseMethodDescriptor yX7_sealOf.desc).map (fun d => d.parameters.length) = some 1 := by decide +kernel
theorem hdv_X7_sealOf : yX7_sealOf.cls = RX7 ∧ yX7_sealOf.cls ≠ "java/lang/invoke/MethodHandle" ∧ yX7_sealOf.cls ≠ "java/lang/invoke/VarHandle" ∧ (parseMethodDescriptor yX7_sealOf.desc).map (fun d => d.parameters.length) = some 1 := ⟨rfl, hd_X7_sealOf⟩
set_option maxHeartbeats 4000000 in
set_option maxRecDepth 100000 in
theorem c_X7_sealOf (l : Launch) (D : va_G)  (p0 : Int32) (Q : Int32 → Prop) (h : wp_X7_sealOf p0 Q) : Met l yX7_sealOf wsX7_sealOf rm_X7_sealOf (k_PR D [] wE k_0 [.int p0]) (vp_Si Q) 0 0 (fun _ => False) := by
  refine k_metR (by decide) rfl (Nat.le_of_ble_eq_true rfl) ?_
  intro Γ G E
  unfold wp_X7_sealOf at h
  show k_J Γ rm_X7_sealOf 1 true wE 0 [(0, .int p0)] [] k_0
  refine r_iconst G (4 : Int32) dX7_sealOf_0 kc_4 ?_
  refine r_iload_n G dX7_sealOf_1 0 rfl rfl ?_
  refine r_bipush G (47 : Int32) dX7_sealOf_2 kb_47 ?_
  refine r_cSR G [.int (4 : Int32), .int p0, .int (47 : Int32)] [] (c_X7_power (k_l Γ) (k_D Γ) _ _ _ _ h) (va_cwS 3 G.2.2.2.2.1 gX7_sealOf_X7_power rfl rfl rfl hd_X7_power ⟨Nat.le_of_ble_eq_true rfl, Nat.le_of_ble_eq_true rfl⟩) [] rfl (fun _ _ => k_E0) rfl rfl (Nat.le_of_ble_eq_true rfl) dX7_sealOf_4 (fun r_4 h => ?_)
  exact r_iretR G E dX7_sealOf_7 h
abbrev rm_X7_bits : Room := { frames := 0, cells := 0, slots := 0, locals := 0 }
def wp_X7_bits (p0 : Int32) (Q : Int32 → Prop) : Prop :=
  (k_lp2 (fun (B_4 : Int32 → Int32 → Prop) (x1_4 : Int32) (x2_4 : Int32) => B_4 x1_4 x2_4) (0 : Int32) (0 : Int32))
theorem hd_X7_bits : yX7_bits.cls ≠ "java/lang/invoke/MethodHandle" ∧ yX7_bits.cls ≠ "java/lang/invoke/VarHandle" ∧ (parseMethodDescriptor yX7_bits.desc).map (fun d => d.parameters.length) = some 1 := by decide +kernel
theorem hdv_X7_bits : yX7_bits.cls = RX7 ∧ yX7_bits.cls ≠ "java/lang/invoke/MethodHandle" ∧ yX7_bits.cls ≠ "java/lang/invoke/VarHandle" ∧ (parseMethodDescriptor yX7_bits.desc).map (fun d => d.parameters.length) = some 1 := ⟨rfl, hd_X7_bits⟩
set_option maxHeartbeats 4000000 in
set_option maxRecDepth 100000 in
theorem c_X7_bits (l : Launch) (D : va_G)  (p0 : Int32) (Q : Int32 → Prop) (h : wp_X7_bits p0 Q) : Met l yX7_bits wsX7_bits rm_X7_bits (k_PR D [] wE k_0 [.int p0]) (vp_Si Q) 0 0 (fun _ => False) := by
  refine k_metR (by decide) rfl (Nat.le_of_ble_eq_true rfl) ?_
  intro Γ G E
  unfold wp_X7_bits at h
  show k_J Γ rm_X7_bits 3 true wE 0 [(0, .int p0)] [] k_0
  refine r_iconst G (0 : Int32) dX7_bits_0 kc_0 ?_
  refine r_istore_n (lv' := [(1, .int (0 : Int32)), (0, .int p0)]) G dX7_bits_1 rfl (by decide) rfl ?_
  refine r_iconst G (0 : Int32) dX7_bits_2 kc_0 ?_
  refine r_istore_n (lv' := [(2, .int (0 : Int32)), (1, .int (0 : Int32)), (0, .int p0)]) G dX7_bits_3 rfl (by decide) rfl ?_
  obtain ⟨I_4, n_4, h, hI_4⟩ := h
  have key_4 : ∀ (n : Nat) (x1_4 : Int32) (x2_4 : Int32), I_4 n x1_4 x2_4 → k_J Γ rm_X7_bits 3 true wE 4 [(0, .int p0), (1, .int x1_4), (2, .int x2_4)] [] k_0 := by
    intro n
    induction n using Nat.strongRecOn with
    | ind n ih_4 =>
      intro x1_4 x2_4 h
      replace h := hI_4 n x1_4 x2_4 h
      obtain ⟨m_4, hm_4, h⟩ := h
      exact r_sub [0, 1, 2] rfl (ih_4 m_4 hm_4 _ _ h)
  exact r_sub [2, 1, 0] rfl (key_4 n_4 _ _ h)
abbrev rm_X7_bentAt : Room := { frames := 0, cells := 0, slots := 0, locals := 0 }
def wp_X7_bentAt (p0 p1 : Int32) (Q : Int32 → Prop) : Prop :=
  Q (((48 : Int32) + ((8 : Int32) * p1)) + p0)
theorem hd_X7_bentAt : yX7_bentAt.cls ≠ "java/lang/invoke/MethodHandle" ∧ yX7_bentAt.cls ≠ "java/lang/invoke/VarHandle" ∧ (parseMethodDescriptor yX7_bentAt.desc).map (fun d => d.parameters.length) = some 2 := by decide +kernel
theorem hdv_X7_bentAt : yX7_bentAt.cls = RX7 ∧ yX7_bentAt.cls ≠ "java/lang/invoke/MethodHandle" ∧ yX7_bentAt.cls ≠ "java/lang/invoke/VarHandle" ∧ (parseMethodDescriptor yX7_bentAt.desc).map (fun d => d.parameters.length) = some 2 := ⟨rfl, hd_X7_bentAt⟩
set_option maxHeartbeats 4000000 in
set_option maxRecDepth 100000 in
theorem c_X7_bentAt (l : Launch) (D : va_G)  (p0 p1 : Int32) (Q : Int32 → Prop) (h : wp_X7_bentAt p0 p1 Q) : Met l yX7_bentAt wsX7_bentAt rm_X7_bentAt (k_PR D [] wE k_0 [.int p0, .int p1]) (vp_Si Q) 0 0 (fun _ => False) := by
  refine k_metR (by decide) rfl (Nat.le_of_ble_eq_true rfl) ?_
  intro Γ G E
  unfold wp_X7_bentAt at h
  show k_J Γ rm_X7_bentAt 2 true wE 0 [(0, .int p0), (1, .int p1)] [] k_0
  refine r_bipush G (48 : Int32) dX7_bentAt_0 kb_48 ?_
  refine r_bipush G (8 : Int32) dX7_bentAt_2 kb_8 ?_
  refine r_iload_n G dX7_bentAt_4 1 rfl rfl ?_
  refine r_imul G dX7_bentAt_5 ?_
  refine r_iadd G dX7_bentAt_6 ?_
  refine r_iload_n G dX7_bentAt_7 0 rfl rfl ?_
  refine r_iadd G dX7_bentAt_8 ?_
  exact r_iretR G E dX7_bentAt_9 h
abbrev rm_X7_mod : Room := { frames := 0, cells := 0, slots := 0, locals := 0 }
def wp_X7_mod (p0 : Int32) (Q : Int32 → Prop) : Prop :=
  ((0 ≤ (k_rem p0 (23 : Int32)) → Q (k_rem p0 (23 : Int32))) ∧ (¬ 0 ≤ (k_rem p0 (23 : Int32)) → Q ((k_rem p0 (23 : Int32)) + (23 : Int32))))
theorem hd_X7_mod : yX7_mod.cls ≠ "java/lang/invoke/MethodHandle" ∧ yX7_mod.cls ≠ "java/lang/invoke/VarHandle" ∧ (parseMethodDescriptor yX7_mod.desc).map (fun d => d.parameters.length) = some 1 := by decide +kernel
theorem hdv_X7_mod : yX7_mod.cls = RX7 ∧ yX7_mod.cls ≠ "java/lang/invoke/MethodHandle" ∧ yX7_mod.cls ≠ "java/lang/invoke/VarHandle" ∧ (parseMethodDescriptor yX7_mod.desc).map (fun d => d.parameters.length) = some 1 := ⟨rfl, hd_X7_mod⟩
set_option maxHeartbeats 4000000 in
set_option maxRecDepth 100000 in
theorem c_X7_mod (l : Launch) (D : va_G)  (p0 : Int32) (Q : Int32 → Prop) (h : wp_X7_mod p0 Q) : Met l yX7_mod wsX7_mod rm_X7_mod (k_PR D [] wE k_0 [.int p0]) (vp_Si Q) 0 0 (fun _ => False) := by
  refine k_metR (by decide) rfl (Nat.le_of_ble_eq_true rfl) ?_
  intro Γ G E
  unfold wp_X7_mod at h
  show k_J Γ rm_X7_mod 2 true wE 0 [(0, .int p0)] [] k_0
  refine r_iload_n G dX7_mod_0 0 rfl rfl ?_
  refine r_bipush G (23 : Int32) dX7_mod_1 kb_23 ?_
  refine r_irem G kne_23 dX7_mod_3 ?_
  refine r_istore_n (lv' := [(1, .int (k_rem p0 (23 : Int32))), (0, .int p0)]) G dX7_mod_4 rfl (by decide) rfl ?_
  refine r_iload_n G dX7_mod_5 0 rfl rfl ?_
  refine r_if_ge G 16 dX7_mod_6 (by decide) (fun hc => ?_) (fun hc => ?_)
  · replace h := h.1 hc
    refine r_iload_n G dX7_mod_16 0 rfl rfl ?_
    exact r_iretR G E dX7_mod_17 h
  · replace h := h.2 hc
    refine r_iload_n G dX7_mod_9 0 rfl rfl ?_
    refine r_bipush G (23 : Int32) dX7_mod_10 kb_23 ?_
    refine r_iadd G dX7_mod_12 ?_
    refine r_goto G 17 dX7_mod_13 (by decide) ?_
    exact r_iretR G E dX7_mod_17 h
abbrev rm_X7_has : Room := { frames := 0, cells := 0, slots := 0, locals := 0 }
def wp_X7_has (p0 p1 : Int32) (Q : Int32 → Prop) : Prop :=
  ((((p0 >>> (p1 &&& 31)) &&& (1 : Int32)) = (1 : Int32) → Q (1 : Int32)) ∧ (¬ ((p0 >>> (p1 &&& 31)) &&& (1 : Int32)) = (1 : Int32) → Q (0 : Int32)))
theorem hd_X7_has : yX7_has.cls ≠ "java/lang/invoke/MethodHandle" ∧ yX7_has.cls ≠ "java/lang/invoke/VarHandle" ∧ (parseMethodDescriptor yX7_has.desc).map (fun d => d.parameters.length) = some 2 := by decide +kernel
theorem hdv_X7_has : yX7_has.cls = RX7 ∧ yX7_has.cls ≠ "java/lang/invoke/MethodHandle" ∧ yX7_has.cls ≠ "java/lang/invoke/VarHandle" ∧ (parseMethodDescriptor yX7_has.desc).map (fun d => d.parameters.length) = some 2 := ⟨rfl, hd_X7_has⟩
set_option maxHeartbeats 4000000 in
set_option maxRecDepth 100000 in
theorem c_X7_has (l : Launch) (D : va_G)  (p0 p1 : Int32) (Q : Int32 → Prop) (h : wp_X7_has p0 p1 Q) : Met l yX7_has wsX7_has rm_X7_has (k_PR D [] wE k_0 [.int p0, .int p1]) (vp_Si (fun r => (r = 0 ∨ r = 1) ∧ Q r)) 0 0 (fun _ => False) := by
  refine k_metR (by decide) rfl (Nat.le_of_ble_eq_true rfl) ?_
  intro Γ G E
  unfold wp_X7_has at h
  show k_J Γ rm_X7_has 2 true wE 0 [(0, .int p0), (1, .int p1)] [] k_0
  refine r_iload_n G dX7_has_0 0 rfl rfl ?_
  refine r_iload_n G dX7_has_1 1 rfl rfl ?_
  refine r_ishr G dX7_has_2 ?_
  refine r_iconst G (1 : Int32) dX7_has_3 kc_1 ?_
  refine r_iand G dX7_has_4 ?_
  refine r_iconst G (1 : Int32) dX7_has_5 kc_1 ?_
  refine r_icmp_ne G 13 dX7_has_6 (by decide) (fun hc => ?_) (fun hc => ?_)
  · replace h := h.2 hc
    refine r_iconst G (0 : Int32) dX7_has_13 kc_0 ?_
    exact r_zretR G E kz_0 dX7_has_14 ⟨kzo_0, h⟩
  · replace h := h.1 hc
    refine r_iconst G (1 : Int32) dX7_has_9 kc_1 ?_
    refine r_goto G 14 dX7_has_10 (by decide) ?_
    exact r_zretR G E kz_1 dX7_has_14 ⟨kzo_1, h⟩
abbrev rm_X7_firstOf : Room := { frames := 1, cells := 0, slots := 0, locals := 22 }
def wp_X7_firstOf (p0 p1 : Int32) (Q : Int32 → Prop) : Prop :=
  (k_lp2 (fun (B_4 : Int32 → Int32 → Prop) (x2_4 : Int32) (x3_4 : Int32) => B_4 x2_4 x3_4) (0 : Int32) (1 : Int32))
theorem hd_X7_firstOf : yX7_firstOf.cls ≠ "java/lang/invoke/MethodHandle" ∧ yX7_firstOf.cls ≠ "java/lang/invoke/VarHandle" ∧ (parseMethodDescriptor yX7_firstOf.desc).map (fun d => d.parameters.length) = some 2 := by decide +kernel
theorem hdv_X7_firstOf : yX7_firstOf.cls = RX7 ∧ yX7_firstOf.cls ≠ "java/lang/invoke/MethodHandle" ∧ yX7_firstOf.cls ≠ "java/lang/invoke/VarHandle" ∧ (parseMethodDescriptor yX7_firstOf.desc).map (fun d => d.parameters.length) = some 2 := ⟨rfl, hd_X7_firstOf⟩
set_option maxHeartbeats 4000000 in
set_option maxRecDepth 100000 in
theorem c_X7_firstOf (l : Launch) (D : va_G)  (p0 p1 : Int32) (Q : Int32 → Prop) (h : wp_X7_firstOf p0 p1 Q) : Met l yX7_firstOf wsX7_firstOf rm_X7_firstOf (k_PR D [] wE k_0 [.int p0, .int p1]) (vp_Si Q) 0 0 (fun _ => False) := by
  refine k_metR (by decide) rfl (Nat.le_of_ble_eq_true rfl) ?_
  intro Γ G E
  unfold wp_X7_firstOf at h
  show k_J Γ rm_X7_firstOf 4 true wE 0 [(0, .int p0), (1, .int p1)] [] k_0
  refine r_iconst G (0 : Int32) dX7_firstOf_0 kc_0 ?_
  refine r_istore_n (lv' := [(2, .int (0 : Int32)), (0, .int p0), (1, .int p1)]) G dX7_firstOf_1 rfl (by decide) rfl ?_
  refine r_iconst G (1 : Int32) dX7_firstOf_2 kc_1 ?_
  refine r_istore_n (lv' := [(3, .int (1 : Int32)), (2, .int (0 : Int32)), (0, .int p0), (1, .int p1)]) G dX7_firstOf_3 rfl (by decide) rfl ?_
  obtain ⟨I_4, n_4, h, hI_4⟩ := h
  have key_4 : ∀ (n : Nat) (x2_4 : Int32) (x3_4 : Int32), I_4 n x2_4 x3_4 → k_J Γ rm_X7_firstOf 4 true wE 4 [(0, .int p0), (1, .int p1), (2, .int x2_4), (3, .int x3_4)] [] k_0 := by
    intro n
    induction n using Nat.strongRecOn with
    | ind n ih_4 =>
      intro x2_4 x3_4 h
      replace h := hI_4 n x2_4 x3_4 h
      obtain ⟨m_4, hm_4, h⟩ := h
      exact r_sub [0, 1, 2, 3] rfl (ih_4 m_4 hm_4 _ _ h)
  exact r_sub [2, 3, 1, 0] rfl (key_4 n_4 _ _ h)
end
section
abbrev rm_X7_inverse : Room := { frames := 1, cells := 0, slots := 0, locals := 24 }
def wp_X7_inverse (p0 : Int32) (Q : Int32 → Prop) : Prop :=
  wp_X7_mod p0 (fun (r_1 : Int32) => wp_X7_power r_1 (21 : Int32) (23 : Int32) (fun (r_8 : Int32) => Q r_8))
theorem hd_X7_inverse : yX7_inverse.cls ≠ "java/lang/invoke/MethodHandle" ∧ yX7_inverse.cls ≠ "java/lang/invoke/VarHandle" ∧ (parseMethodDescriptor yX7_inverse.desc).map (fun d => d.parameters.length) = some 1 := by decide +kernel
theorem hdv_X7_inverse : yX7_inverse.cls = RX7 ∧ yX7_inverse.cls ≠ "java/lang/invoke/MethodHandle" ∧ yX7_inverse.cls ≠ "java/lang/invoke/VarHandle" ∧ (parseMethodDescriptor yX7_inverse.desc).map (fun d => d.parameters.length) = some 1 := ⟨rfl, hd_X7_inverse⟩
set_option maxHeartbeats 4000000 in
set_option maxRecDepth 100000 in
theorem c_X7_inverse (l : Launch) (D : va_G)  (p0 : Int32) (Q : Int32 → Prop) (h : wp_X7_inverse p0 Q) : Met l yX7_inverse wsX7_inverse rm_X7_inverse (k_PR D [] wE k_0 [.int p0]) (vp_Si Q) 0 0 (fun _ => False) := by
  refine k_metR (by decide) rfl (Nat.le_of_ble_eq_true rfl) ?_
  intro Γ G E
  unfold wp_X7_inverse at h
  show k_J Γ rm_X7_inverse 1 true wE 0 [(0, .int p0)] [] k_0
  refine r_iload_n G dX7_inverse_0 0 rfl rfl ?_
  refine r_cSR G [.int p0] [] (c_X7_mod (k_l Γ) (k_D Γ) _ _ h) (va_cwS 1 G.2.2.2.2.1 gX7_inverse_X7_mod rfl rfl rfl hd_X7_mod ⟨Nat.le_of_ble_eq_true rfl, Nat.le_of_ble_eq_true rfl⟩) [] rfl (fun _ _ => k_E0) rfl rfl (Nat.le_of_ble_eq_true rfl) dX7_inverse_1 (fun r_1 h => ?_)
  refine r_bipush G (21 : Int32) dX7_inverse_4 kb_21 ?_
  refine r_bipush G (23 : Int32) dX7_inverse_6 kb_23 ?_
  refine r_cSR G [.int r_1, .int (21 : Int32), .int (23 : Int32)] [] (c_X7_power (k_l Γ) (k_D Γ) _ _ _ _ h) (va_cwS 3 G.2.2.2.2.1 gX7_inverse_X7_power rfl rfl rfl hd_X7_power ⟨Nat.le_of_ble_eq_true rfl, Nat.le_of_ble_eq_true rfl⟩) [] rfl (fun _ _ => k_E0) rfl rfl (Nat.le_of_ble_eq_true rfl) dX7_inverse_8 (fun r_8 h => ?_)
  exact r_iretR G E dX7_inverse_11 h
abbrev rm_X7_weight : Room := { frames := 2, cells := 0, slots := 0, locals := 44 }
def wp_X7_weight (p0 p1 p2 : Int32) (Q : Int32 → Prop) : Prop :=
  (k_lp2 (fun (B_5 : Int32 → Int32 → Prop) (x3_5 : Int32) (x4_5 : Int32) => B_5 x3_5 x4_5) (1 : Int32) (1 : Int32))
theorem hd_X7_weight : yX7_weight.cls ≠ "java/lang/invoke/MethodHandle" ∧ yX7_weight.cls ≠ "java/lang/invoke/VarHandle" ∧ (parseMethodDescriptor yX7_weight.desc).map (fun d => d.parameters.length) = some 3 := by decide +kernel
theorem hdv_X7_weight : yX7_weight.cls = RX7 ∧ yX7_weight.cls ≠ "java/lang/invoke/MethodHandle" ∧ yX7_weight.cls ≠ "java/lang/invoke/VarHandle" ∧ (parseMethodDescriptor yX7_weight.desc).map (fun d => d.parameters.length) = some 3 := ⟨rfl, hd_X7_weight⟩
set_option maxHeartbeats 4000000 in
set_option maxRecDepth 100000 in
theorem c_X7_weight (l : Launch) (D : va_G)  (p0 p1 p2 : Int32) (Q : Int32 → Prop) (h : wp_X7_weight p0 p1 p2 Q) : Met l yX7_weight wsX7_weight rm_X7_weight (k_PR D [] wE k_0 [.int p0, .int p1, .int p2]) (vp_Si Q) 0 0 (fun _ => False) := by
  refine k_metR (by decide) rfl (Nat.le_of_ble_eq_true rfl) ?_
  intro Γ G E
  unfold wp_X7_weight at h
  show k_J Γ rm_X7_weight 5 true wE 0 [(0, .int p0), (1, .int p1), (2, .int p2)] [] k_0
  refine r_iconst G (1 : Int32) dX7_weight_0 kc_1 ?_
  refine r_istore_n (lv' := [(3, .int (1 : Int32)), (0, .int p0), (1, .int p1), (2, .int p2)]) G dX7_weight_1 rfl (by decide) rfl ?_
  refine r_iconst G (1 : Int32) dX7_weight_2 kc_1 ?_
  refine r_istore (lv' := [(4, .int (1 : Int32)), (3, .int (1 : Int32)), (0, .int p0), (1, .int p1), (2, .int p2)]) G dX7_weight_3 (by decide) rfl ?_
  obtain ⟨I_5, n_5, h, hI_5⟩ := h
  have key_5 : ∀ (n : Nat) (x3_5 : Int32) (x4_5 : Int32), I_5 n x3_5 x4_5 → k_J Γ rm_X7_weight 5 true wE 5 [(0, .int p0), (1, .int p1), (2, .int p2), (3, .int x3_5), (4, .int x4_5)] [] k_0 := by
    intro n
    induction n using Nat.strongRecOn with
    | ind n ih_5 =>
      intro x3_5 x4_5 h
      replace h := hI_5 n x3_5 x4_5 h
      obtain ⟨m_5, hm_5, h⟩ := h
      exact r_sub [0, 1, 2, 3, 4] rfl (ih_5 m_5 hm_5 _ _ h)
  exact r_sub [2, 3, 4, 1, 0] rfl (key_5 n_5 _ _ h)
abbrev rm_X7_isValue : Room := { frames := 1, cells := 0, slots := 0, locals := 22 }
def wp_X7_isValue (p0 : Int32) (Q : Int32 → Prop) : Prop :=
  wp_X7_in p0 (0 : Int32) (22 : Int32) (fun (r_4 : Int32) => Q r_4)
theorem hd_X7_isValue : yX7_isValue.cls ≠ "java/lang/invoke/MethodHandle" ∧ yX7_isValue.cls ≠ "java/lang/invoke/VarHandle" ∧ (parseMethodDescriptor yX7_isValue.desc).map (fun d => d.parameters.length) = some 1 := by decide +kernel
theorem hdv_X7_isValue : yX7_isValue.cls = RX7 ∧ yX7_isValue.cls ≠ "java/lang/invoke/MethodHandle" ∧ yX7_isValue.cls ≠ "java/lang/invoke/VarHandle" ∧ (parseMethodDescriptor yX7_isValue.desc).map (fun d => d.parameters.length) = some 1 := ⟨rfl, hd_X7_isValue⟩
set_option maxHeartbeats 4000000 in
set_option maxRecDepth 100000 in
theorem c_X7_isValue (l : Launch) (D : va_G)  (p0 : Int32) (Q : Int32 → Prop) (h : wp_X7_isValue p0 Q) : Met l yX7_isValue wsX7_isValue rm_X7_isValue (k_PR D [] wE k_0 [.int p0]) (vp_Si (fun r => (r = 0 ∨ r = 1) ∧ Q r)) 0 0 (fun _ => False) := by
  refine k_metR (by decide) rfl (Nat.le_of_ble_eq_true rfl) ?_
  intro Γ G E
  unfold wp_X7_isValue at h
  show k_J Γ rm_X7_isValue 1 true wE 0 [(0, .int p0)] [] k_0
  refine r_iload_n G dX7_isValue_0 0 rfl rfl ?_
  refine r_iconst G (0 : Int32) dX7_isValue_1 kc_0 ?_
  refine r_bipush G (22 : Int32) dX7_isValue_2 kb_22 ?_
  refine r_cSR G [.int p0, .int (0 : Int32), .int (22 : Int32)] [] (c_X7_in (k_l Γ) (k_D Γ) _ _ _ _ h) (va_cwS 3 G.2.2.2.2.1 gX7_isValue_X7_in rfl rfl rfl hd_X7_in ⟨Nat.le_of_ble_eq_true rfl, Nat.le_of_ble_eq_true rfl⟩) [] rfl (fun _ _ => k_E0) rfl rfl (Nat.le_of_ble_eq_true rfl) dX7_isValue_4 (fun r_4 h => ?_)
  have hz_4 := h.1
  replace h := h.2
  exact r_zretR G E (kz_of hz_4) dX7_isValue_7 ⟨hz_4, h⟩
end
