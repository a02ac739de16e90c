section
-- ===== PART A: goes FIRST, ahead of the names: the tables' words, and 'selects' of the private methods out of them =====
/-- a private method of a class that the tables say can be made, by its rows of tables_1 -/
def lw_okq (q : MethodName × Nat) : Prop := (q.1.cls ≠ "java/lang/invoke/MethodHandle" ∧ q.1.cls ≠ "java/lang/invoke/VarHandle") ∧ Cond.instantiable q.1.cls q.2 ∈ tables_1 ∧ Cond.privateMethod q.1 ∈ tables_1 ∧ Cond.instanceMethod q.1 ∈ tables_1
theorem lw_p0 : lw_okq (⟨"SearchGrids", "isCell", "(I)Z"⟩, 12) := ⟨⟨by decide +kernel, by decide +kernel⟩, List.mem_of_getElem? (i := 8) (by decide +kernel), List.mem_of_getElem? (i := 168) (by decide +kernel), List.mem_of_getElem? (i := 169) (by decide +kernel)⟩
theorem lw_p1 : lw_okq (⟨"SearchGrids", "tellOf", "(I)I"⟩, 12) := ⟨⟨by decide +kernel, by decide +kernel⟩, List.mem_of_getElem? (i := 8) (by decide +kernel), List.mem_of_getElem? (i := 173) (by decide +kernel), List.mem_of_getElem? (i := 174) (by decide +kernel)⟩
theorem lw_p2 : lw_okq (⟨"SearchGrids", "placeOf", "(I)I"⟩, 12) := ⟨⟨by decide +kernel, by decide +kernel⟩, List.mem_of_getElem? (i := 8) (by decide +kernel), List.mem_of_getElem? (i := 177) (by decide +kernel), List.mem_of_getElem? (i := 178) (by decide +kernel)⟩
theorem lw_p3 : lw_okq (⟨"SearchGrids", "dropPlan", "()V"⟩, 12) := ⟨⟨by decide +kernel, by decide +kernel⟩, List.mem_of_getElem? (i := 8) (by decide +kernel), List.mem_of_getElem? (i := 181) (by decide +kernel), List.mem_of_getElem? (i := 182) (by decide +kernel)⟩
theorem lw_p4 : lw_okq (⟨"SearchGrids", "allCounts", "()J"⟩, 12) := ⟨⟨by decide +kernel, by decide +kernel⟩, List.mem_of_getElem? (i := 8) (by decide +kernel), List.mem_of_getElem? (i := 199) (by decide +kernel), List.mem_of_getElem? (i := 200) (by decide +kernel)⟩
theorem lw_p5 : lw_okq (⟨"SearchGrids$Looker", "begin", "(I)V"⟩, 5) := ⟨⟨by decide +kernel, by decide +kernel⟩, List.mem_of_getElem? (i := 66) (by decide +kernel), List.mem_of_getElem? (i := 208) (by decide +kernel), List.mem_of_getElem? (i := 209) (by decide +kernel)⟩
theorem lw_p6 : lw_okq (⟨"SearchGrids", "isLooker", "(I)Z"⟩, 12) := ⟨⟨by decide +kernel, by decide +kernel⟩, List.mem_of_getElem? (i := 8) (by decide +kernel), List.mem_of_getElem? (i := 216) (by decide +kernel), List.mem_of_getElem? (i := 217) (by decide +kernel)⟩
theorem lw_p7 : lw_okq (⟨"SearchGrids$Looker", "takeAway", "(II)V"⟩, 5) := ⟨⟨by decide +kernel, by decide +kernel⟩, List.mem_of_getElem? (i := 66) (by decide +kernel), List.mem_of_getElem? (i := 221) (by decide +kernel), List.mem_of_getElem? (i := 222) (by decide +kernel)⟩
theorem lw_p8 : lw_okq (⟨"SearchGrids$Cell", "reckonGains", "()V"⟩, 10) := ⟨⟨by decide +kernel, by decide +kernel⟩, List.mem_of_getElem? (i := 18) (by decide +kernel), List.mem_of_getElem? (i := 233) (by decide +kernel), List.mem_of_getElem? (i := 234) (by decide +kernel)⟩
theorem lw_p9 : lw_okq (⟨"SearchGrids$Cell", "finds", "([I)J"⟩, 10) := ⟨⟨by decide +kernel, by decide +kernel⟩, List.mem_of_getElem? (i := 18) (by decide +kernel), List.mem_of_getElem? (i := 237) (by decide +kernel), List.mem_of_getElem? (i := 238) (by decide +kernel)⟩
theorem lw_p10 : lw_okq (⟨"SearchGrids$Cell", "weight", "()J"⟩, 10) := ⟨⟨by decide +kernel, by decide +kernel⟩, List.mem_of_getElem? (i := 18) (by decide +kernel), List.mem_of_getElem? (i := 241) (by decide +kernel), List.mem_of_getElem? (i := 242) (by decide +kernel)⟩
theorem lw_p11 : lw_okq (⟨"SearchGrids$Cell", "missed", "([I)J"⟩, 10) := ⟨⟨by decide +kernel, by decide +kernel⟩, List.mem_of_getElem? (i := 18) (by decide +kernel), List.mem_of_getElem? (i := 246) (by decide +kernel), List.mem_of_getElem? (i := 247) (by decide +kernel)⟩
theorem lw_p12 : lw_okq (⟨"SearchGrids$Cell", "missedBy", "(II)J"⟩, 10) := ⟨⟨by decide +kernel, by decide +kernel⟩, List.mem_of_getElem? (i := 18) (by decide +kernel), List.mem_of_getElem? (i := 250) (by decide +kernel), List.mem_of_getElem? (i := 251) (by decide +kernel)⟩
theorem lw_p13 : lw_okq (⟨"SearchGrids", "giveBestHour", "()Z"⟩, 12) := ⟨⟨by decide +kernel, by decide +kernel⟩, List.mem_of_getElem? (i := 8) (by decide +kernel), List.mem_of_getElem? (i := 257) (by decide +kernel), List.mem_of_getElem? (i := 258) (by decide +kernel)⟩
theorem lw_p14 : lw_okq (⟨"SearchGrids", "plannedHours", "()I"⟩, 12) := ⟨⟨by decide +kernel, by decide +kernel⟩, List.mem_of_getElem? (i := 8) (by decide +kernel), List.mem_of_getElem? (i := 269) (by decide +kernel), List.mem_of_getElem? (i := 270) (by decide +kernel)⟩
theorem lw_p15 : lw_okq (⟨"SearchGrids", "plannedFinds", "()J"⟩, 12) := ⟨⟨by decide +kernel, by decide +kernel⟩, List.mem_of_getElem? (i := 8) (by decide +kernel), List.mem_of_getElem? (i := 273) (by decide +kernel), List.mem_of_getElem? (i := 274) (by decide +kernel)⟩
def lw_privs_1 : List (MethodName × Nat) := [(⟨"SearchGrids", "isCell", "(I)Z"⟩, 12), (⟨"SearchGrids", "tellOf", "(I)I"⟩, 12), (⟨"SearchGrids", "placeOf", "(I)I"⟩, 12), (⟨"SearchGrids", "dropPlan", "()V"⟩, 12), (⟨"SearchGrids", "allCounts", "()J"⟩, 12), (⟨"SearchGrids$Looker", "begin", "(I)V"⟩, 5), (⟨"SearchGrids", "isLooker", "(I)Z"⟩, 12), (⟨"SearchGrids$Looker", "takeAway", "(II)V"⟩, 5), (⟨"SearchGrids$Cell", "reckonGains", "()V"⟩, 10), (⟨"SearchGrids$Cell", "finds", "([I)J"⟩, 10), (⟨"SearchGrids$Cell", "weight", "()J"⟩, 10), (⟨"SearchGrids$Cell", "missed", "([I)J"⟩, 10), (⟨"SearchGrids$Cell", "missedBy", "(II)J"⟩, 10), (⟨"SearchGrids", "giveBestHour", "()Z"⟩, 12), (⟨"SearchGrids", "plannedHours", "()I"⟩, 12), (⟨"SearchGrids", "plannedFinds", "()J"⟩, 12)]
theorem lw_r1 : ∀ q ∈ lw_privs_1, lw_okq q := List.forall_mem_cons.mpr ⟨lw_p0, List.forall_mem_cons.mpr ⟨lw_p1, List.forall_mem_cons.mpr ⟨lw_p2, List.forall_mem_cons.mpr ⟨lw_p3, List.forall_mem_cons.mpr ⟨lw_p4, List.forall_mem_cons.mpr ⟨lw_p5, List.forall_mem_cons.mpr ⟨lw_p6, List.forall_mem_cons.mpr ⟨lw_p7, List.forall_mem_cons.mpr ⟨lw_p8, List.forall_mem_cons.mpr ⟨lw_p9, List.forall_mem_cons.mpr ⟨lw_p10, List.forall_mem_cons.mpr ⟨lw_p11, List.forall_mem_cons.mpr ⟨lw_p12, List.forall_mem_cons.mpr ⟨lw_p13, List.forall_mem_cons.mpr ⟨lw_p14, List.forall_mem_cons.mpr ⟨lw_p15, fun _ h => absurd h List.not_mem_nil⟩⟩⟩⟩⟩⟩⟩⟩⟩⟩⟩⟩⟩⟩⟩⟩
theorem lw_p16 : lw_okq (⟨"SearchGrids", "isOutdone", "(IIIJJ)Z"⟩, 12) := ⟨⟨by decide +kernel, by decide +kernel⟩, List.mem_of_getElem? (i := 8) (by decide +kernel), List.mem_of_getElem? (i := 278) (by decide +kernel), List.mem_of_getElem? (i := 279) (by decide +kernel)⟩
theorem lw_p17 : lw_okq (⟨"SearchGrids$LookLog", "add", "(IIIJ)I"⟩, 6) := ⟨⟨by decide +kernel, by decide +kernel⟩, List.mem_of_getElem? (i := 90) (by decide +kernel), List.mem_of_getElem? (i := 287) (by decide +kernel), List.mem_of_getElem? (i := 288) (by decide +kernel)⟩
theorem lw_p18 : lw_okq (⟨"SearchGrids$Cell", "remains", "()J"⟩, 10) := ⟨⟨by decide +kernel, by decide +kernel⟩, List.mem_of_getElem? (i := 18) (by decide +kernel), List.mem_of_getElem? (i := 295) (by decide +kernel), List.mem_of_getElem? (i := 296) (by decide +kernel)⟩
theorem lw_p19 : lw_okq (⟨"SearchGrids", "allRemains", "()J"⟩, 12) := ⟨⟨by decide +kernel, by decide +kernel⟩, List.mem_of_getElem? (i := 8) (by decide +kernel), List.mem_of_getElem? (i := 299) (by decide +kernel), List.mem_of_getElem? (i := 300) (by decide +kernel)⟩
theorem lw_p20 : lw_okq (⟨"SearchGrids", "standingOf", "(LSearchGrids$Cell;)J"⟩, 12) := ⟨⟨by decide +kernel, by decide +kernel⟩, List.mem_of_getElem? (i := 8) (by decide +kernel), List.mem_of_getElem? (i := 351) (by decide +kernel), List.mem_of_getElem? (i := 352) (by decide +kernel)⟩
theorem lw_p21 : lw_okq (⟨"SearchGrids", "countBefore", "(I)I"⟩, 12) := ⟨⟨by decide +kernel, by decide +kernel⟩, List.mem_of_getElem? (i := 8) (by decide +kernel), List.mem_of_getElem? (i := 355) (by decide +kernel), List.mem_of_getElem? (i := 356) (by decide +kernel)⟩
theorem lw_p22 : lw_okq (⟨"SearchGridsModel", "isCell", "(I)Z"⟩, 21) := ⟨⟨by decide +kernel, by decide +kernel⟩, List.mem_of_getElem? (i := 375) (by decide +kernel), List.mem_of_getElem? (i := 454) (by decide +kernel), List.mem_of_getElem? (i := 455) (by decide +kernel)⟩
theorem lw_p23 : lw_okq (⟨"SearchGridsModel", "place", "(I)I"⟩, 21) := ⟨⟨by decide +kernel, by decide +kernel⟩, List.mem_of_getElem? (i := 375) (by decide +kernel), List.mem_of_getElem? (i := 459) (by decide +kernel), List.mem_of_getElem? (i := 460) (by decide +kernel)⟩
theorem lw_p24 : lw_okq (⟨"SearchGridsModel", "tell", "(I)I"⟩, 21) := ⟨⟨by decide +kernel, by decide +kernel⟩, List.mem_of_getElem? (i := 375) (by decide +kernel), List.mem_of_getElem? (i := 463) (by decide +kernel), List.mem_of_getElem? (i := 464) (by decide +kernel)⟩
theorem lw_p25 : lw_okq (⟨"SearchGridsModel", "move", "(II)V"⟩, 21) := ⟨⟨by decide +kernel, by decide +kernel⟩, List.mem_of_getElem? (i := 375) (by decide +kernel), List.mem_of_getElem? (i := 467) (by decide +kernel), List.mem_of_getElem? (i := 468) (by decide +kernel)⟩
theorem lw_p26 : lw_okq (⟨"SearchGridsModel", "changed", "()V"⟩, 21) := ⟨⟨by decide +kernel, by decide +kernel⟩, List.mem_of_getElem? (i := 375) (by decide +kernel), List.mem_of_getElem? (i := 471) (by decide +kernel), List.mem_of_getElem? (i := 472) (by decide +kernel)⟩
theorem lw_p27 : lw_okq (⟨"SearchGridsModel", "isLooker", "(I)Z"⟩, 21) := ⟨⟨by decide +kernel, by decide +kernel⟩, List.mem_of_getElem? (i := 375) (by decide +kernel), List.mem_of_getElem? (i := 488) (by decide +kernel), List.mem_of_getElem? (i := 489) (by decide +kernel)⟩
theorem lw_p28 : lw_okq (⟨"SearchGridsModel", "worth", "([I)J"⟩, 21) := ⟨⟨by decide +kernel, by decide +kernel⟩, List.mem_of_getElem? (i := 375) (by decide +kernel), List.mem_of_getElem? (i := 511) (by decide +kernel), List.mem_of_getElem? (i := 512) (by decide +kernel)⟩
theorem lw_p29 : lw_okq (⟨"SearchGridsModel", "weight", "(I)I"⟩, 21) := ⟨⟨by decide +kernel, by decide +kernel⟩, List.mem_of_getElem? (i := 375) (by decide +kernel), List.mem_of_getElem? (i := 515) (by decide +kernel), List.mem_of_getElem? (i := 516) (by decide +kernel)⟩
theorem lw_p30 : lw_okq (⟨"SearchGridsModel", "missed", "([II)J"⟩, 21) := ⟨⟨by decide +kernel, by decide +kernel⟩, List.mem_of_getElem? (i := 375) (by decide +kernel), List.mem_of_getElem? (i := 520) (by decide +kernel), List.mem_of_getElem? (i := 521) (by decide +kernel)⟩
theorem lw_p31 : lw_okq (⟨"SearchGridsModel", "given", "([II)I"⟩, 21) := ⟨⟨by decide +kernel, by decide +kernel⟩, List.mem_of_getElem? (i := 375) (by decide +kernel), List.mem_of_getElem? (i := 524) (by decide +kernel), List.mem_of_getElem? (i := 525) (by decide +kernel)⟩
def lw_privs_2 : List (MethodName × Nat) := [(⟨"SearchGrids", "isOutdone", "(IIIJJ)Z"⟩, 12), (⟨"SearchGrids$LookLog", "add", "(IIIJ)I"⟩, 6), (⟨"SearchGrids$Cell", "remains", "()J"⟩, 10), (⟨"SearchGrids", "allRemains", "()J"⟩, 12), (⟨"SearchGrids", "standingOf", "(LSearchGrids$Cell;)J"⟩, 12), (⟨"SearchGrids", "countBefore", "(I)I"⟩, 12), (⟨"SearchGridsModel", "isCell", "(I)Z"⟩, 21), (⟨"SearchGridsModel", "place", "(I)I"⟩, 21), (⟨"SearchGridsModel", "tell", "(I)I"⟩, 21), (⟨"SearchGridsModel", "move", "(II)V"⟩, 21), (⟨"SearchGridsModel", "changed", "()V"⟩, 21), (⟨"SearchGridsModel", "isLooker", "(I)Z"⟩, 21), (⟨"SearchGridsModel", "worth", "([I)J"⟩, 21), (⟨"SearchGridsModel", "weight", "(I)I"⟩, 21), (⟨"SearchGridsModel", "missed", "([II)J"⟩, 21), (⟨"SearchGridsModel", "given", "([II)I"⟩, 21)]
theorem lw_r2 : ∀ q ∈ lw_privs_2, lw_okq q := List.forall_mem_cons.mpr ⟨lw_p16, List.forall_mem_cons.mpr ⟨lw_p17, List.forall_mem_cons.mpr ⟨lw_p18, List.forall_mem_cons.mpr ⟨lw_p19, List.forall_mem_cons.mpr ⟨lw_p20, List.forall_mem_cons.mpr ⟨lw_p21, List.forall_mem_cons.mpr ⟨lw_p22, List.forall_mem_cons.mpr ⟨lw_p23, List.forall_mem_cons.mpr ⟨lw_p24, List.forall_mem_cons.mpr ⟨lw_p25, List.forall_mem_cons.mpr ⟨lw_p26, List.forall_mem_cons.mpr ⟨lw_p27, List.forall_mem_cons.mpr ⟨lw_p28, List.forall_mem_cons.mpr ⟨lw_p29, List.forall_mem_cons.mpr ⟨lw_p30, List.forall_mem_cons.mpr ⟨lw_p31, fun _ h => absurd h List.not_mem_nil⟩⟩⟩⟩⟩⟩⟩⟩⟩⟩⟩⟩⟩⟩⟩⟩
theorem lw_p32 : lw_okq (⟨"SearchGridsModel", "use", "(I)I"⟩, 21) := ⟨⟨by decide +kernel, by decide +kernel⟩, List.mem_of_getElem? (i := 375) (by decide +kernel), List.mem_of_getElem? (i := 528) (by decide +kernel), List.mem_of_getElem? (i := 529) (by decide +kernel)⟩
theorem lw_p33 : lw_okq (⟨"SearchGridsModel", "size", "()I"⟩, 21) := ⟨⟨by decide +kernel, by decide +kernel⟩, List.mem_of_getElem? (i := 375) (by decide +kernel), List.mem_of_getElem? (i := 532) (by decide +kernel), List.mem_of_getElem? (i := 533) (by decide +kernel)⟩
theorem lw_p34 : lw_okq (⟨"SearchGridsModel", "isBetter", "(IIJ)Z"⟩, 21) := ⟨⟨by decide +kernel, by decide +kernel⟩, List.mem_of_getElem? (i := 375) (by decide +kernel), List.mem_of_getElem? (i := 544) (by decide +kernel), List.mem_of_getElem? (i := 545) (by decide +kernel)⟩
theorem lw_p35 : lw_okq (⟨"SearchGridsModel", "slot", "(I)I"⟩, 21) := ⟨⟨by decide +kernel, by decide +kernel⟩, List.mem_of_getElem? (i := 375) (by decide +kernel), List.mem_of_getElem? (i := 548) (by decide +kernel), List.mem_of_getElem? (i := 549) (by decide +kernel)⟩
theorem lw_p36 : lw_okq (⟨"SearchGridsModel", "all", "()J"⟩, 21) := ⟨⟨by decide +kernel, by decide +kernel⟩, List.mem_of_getElem? (i := 375) (by decide +kernel), List.mem_of_getElem? (i := 557) (by decide +kernel), List.mem_of_getElem? (i := 558) (by decide +kernel)⟩
theorem lw_p37 : lw_okq (⟨"SearchGridsModel", "left", "()J"⟩, 21) := ⟨⟨by decide +kernel, by decide +kernel⟩, List.mem_of_getElem? (i := 375) (by decide +kernel), List.mem_of_getElem? (i := 571) (by decide +kernel), List.mem_of_getElem? (i := 572) (by decide +kernel)⟩
theorem lw_p38 : lw_okq (⟨"SearchGridsModel", "rank", "(I)J"⟩, 21) := ⟨⟨by decide +kernel, by decide +kernel⟩, List.mem_of_getElem? (i := 375) (by decide +kernel), List.mem_of_getElem? (i := 599) (by decide +kernel), List.mem_of_getElem? (i := 600) (by decide +kernel)⟩
def lw_privs_3 : List (MethodName × Nat) := [(⟨"SearchGridsModel", "use", "(I)I"⟩, 21), (⟨"SearchGridsModel", "size", "()I"⟩, 21), (⟨"SearchGridsModel", "isBetter", "(IIJ)Z"⟩, 21), (⟨"SearchGridsModel", "slot", "(I)I"⟩, 21), (⟨"SearchGridsModel", "all", "()J"⟩, 21), (⟨"SearchGridsModel", "left", "()J"⟩, 21), (⟨"SearchGridsModel", "rank", "(I)J"⟩, 21)]
theorem lw_r3 : ∀ q ∈ lw_privs_3, lw_okq q := List.forall_mem_cons.mpr ⟨lw_p32, List.forall_mem_cons.mpr ⟨lw_p33, List.forall_mem_cons.mpr ⟨lw_p34, List.forall_mem_cons.mpr ⟨lw_p35, List.forall_mem_cons.mpr ⟨lw_p36, List.forall_mem_cons.mpr ⟨lw_p37, List.forall_mem_cons.mpr ⟨lw_p38, fun _ h => absurd h List.not_mem_nil⟩⟩⟩⟩⟩⟩⟩
def lw_privs : List (MethodName × Nat) := lw_privs_1 ++ (lw_privs_2 ++ (lw_privs_3))
def lw_tbl : List Cond := k2_sels lw_privs ++ tables_1
theorem lw_privs_ok : ∀ q ∈ lw_privs, lw_okq q := by
  show ∀ q ∈ lw_privs_1 ++ (lw_privs_2 ++ (lw_privs_3)), lw_okq q
  exact List.forall_mem_append.mpr ⟨lw_r1, List.forall_mem_append.mpr ⟨lw_r2, lw_r3⟩⟩
-- ===== the tables, by wip/whole/names.py =====
def sg_tbl : List Cond := lw_tbl.filter goodWord
theorem gd {i : Nat} {w : Cond} (h : lw_tbl[i]? = some w) (hg : goodWord w = true) : w ∈ sg_tbl := List.mem_filter.mpr ⟨List.mem_of_getElem? h, hg⟩
theorem sg_good : ∀ w ∈ sg_tbl, (w.onTables && w.keeps) = true ∨ ∃ ty, w = .arrayClass ty := fun w h => good_of_word (List.mem_filter.mp h).2
theorem wd_0 : Jvm.Cond.initialized "SearchGridsLaw" ∈ sg_tbl := gd (i := 39) (by decide +kernel) rfl
theorem wd_1 : Jvm.Cond.initialized "SearchGrids" ∈ sg_tbl := gd (i := 40) (by decide +kernel) rfl
theorem wd_2 : Jvm.Cond.initialized "SearchGrids$Cell" ∈ sg_tbl := gd (i := 41) (by decide +kernel) rfl
theorem wd_3 : Jvm.Cond.initialized "SearchGrids$Looker" ∈ sg_tbl := gd (i := 42) (by decide +kernel) rfl
theorem wd_4 : Jvm.Cond.initialized "SearchGrids$LookLog" ∈ sg_tbl := gd (i := 43) (by decide +kernel) rfl
theorem wd_5 : Jvm.Cond.initialized "SearchGridsModel" ∈ sg_tbl := gd (i := 44) (by decide +kernel) rfl
theorem wd_6 : Jvm.Cond.initialized "java/lang/Math" ∈ sg_tbl := gd (i := 45) (by decide +kernel) rfl
theorem wd_7 : Jvm.Cond.classLink "SearchGridsLaw" (7 : Nat) "SearchGrids" ∈ sg_tbl := gd (i := 46) (by decide +kernel) rfl
theorem wd_8 : Jvm.Cond.instantiable "SearchGrids" (12 : Nat) ∈ sg_tbl := gd (i := 47) (by decide +kernel) rfl
theorem wd_9 : Jvm.Cond.methodLink "SearchGridsLaw" (15 : Nat) ({ cls := "SearchGrids", name := "<init>", desc := "(I)V" } : Jvm.MethodName) ∈ sg_tbl := gd (i := 48) (by decide +kernel) rfl
theorem wd_10 : Jvm.Cond.instanceMethod ({ cls := "SearchGrids", name := "<init>", desc := "(I)V" } : Jvm.MethodName) ∈ sg_tbl := gd (i := 49) (by decide +kernel) rfl
set_option maxRecDepth 100000 in
theorem wd_11 : Jvm.Cond.code ({ cls := "SearchGrids", name := "<init>", desc := "(I)V" } : Jvm.MethodName) prog_1_method_1_code (3 : Nat) (Option.none : Option Jvm.ClassFile.FieldType) ∈ sg_tbl := gd (i := 50) rfl rfl
theorem wd_12 : Jvm.Cond.methodLink "SearchGrids" (1 : Nat) ({ cls := "java/lang/Object", name := "<init>", desc := "()V" } : Jvm.MethodName) ∈ sg_tbl := gd (i := 51) (by decide +kernel) rfl
theorem wd_13 : Jvm.Cond.instanceMethod ({ cls := "java/lang/Object", name := "<init>", desc := "()V" } : Jvm.MethodName) ∈ sg_tbl := gd (i := 52) (by decide +kernel) rfl
set_option maxRecDepth 100000 in
theorem wd_14 : Jvm.Cond.code ({ cls := "java/lang/Object", name := "<init>", desc := "()V" } : Jvm.MethodName) object_method_1_code (1 : Nat) (Option.none : Option Jvm.ClassFile.FieldType) ∈ sg_tbl := gd (i := 53) rfl rfl
theorem wd_15 : Jvm.Cond.constant "SearchGrids" (9 : Nat) (65536 : Int32) ∈ sg_tbl := gd (i := 54) (by decide +kernel) rfl
theorem wd_16 : Jvm.Cond.classLink "SearchGrids" (18 : Nat) "SearchGrids$Cell" ∈ sg_tbl := gd (i := 55) (by decide +kernel) rfl
theorem wd_18 : Jvm.Cond.instantiable "SearchGrids$Cell" (10 : Nat) ∈ sg_tbl := gd (i := 57) (by decide +kernel) rfl
theorem wd_20 : Jvm.Cond.instanceMethod ({ cls := "SearchGrids$Cell", name := "<init>", desc := "([I)V" } : Jvm.MethodName) ∈ sg_tbl := gd (i := 59) (by decide +kernel) rfl
set_option maxRecDepth 100000 in
theorem wd_21 : Jvm.Cond.code ({ cls := "SearchGrids$Cell", name := "<init>", desc := "([I)V" } : Jvm.MethodName) prog_2_method_1_code (2 : Nat) (Option.none : Option Jvm.ClassFile.FieldType) ∈ sg_tbl := gd (i := 60) rfl rfl
theorem wd_22 : Jvm.Cond.methodLink "SearchGrids$Cell" (3 : Nat) ({ cls := "java/lang/Object", name := "<init>", desc := "()V" } : Jvm.MethodName) ∈ sg_tbl := gd (i := 61) (by decide +kernel) rfl
theorem wd_23 : Jvm.Cond.fieldLink "SearchGrids$Cell" (38 : Nat) "SearchGrids$Cell" "rates" "[I" ∈ sg_tbl := gd (i := 62) (by decide +kernel) rfl
theorem wd_24 : Jvm.Cond.fieldLink "SearchGrids$Cell" (9 : Nat) "SearchGrids$Cell" "countOf" "[I" ∈ sg_tbl := gd (i := 63) (by decide +kernel) rfl
theorem wd_26 : Jvm.Cond.fieldLink "SearchGrids$Cell" (15 : Nat) "SearchGrids$Cell" "planned" "[I" ∈ sg_tbl := gd (i := 65) (by decide +kernel) rfl
theorem wd_28 : Jvm.Cond.fieldLink "SearchGrids$Cell" (18 : Nat) "SearchGrids$Cell" "looked" "[I" ∈ sg_tbl := gd (i := 67) (by decide +kernel) rfl
theorem wd_30 : Jvm.Cond.fieldLink "SearchGrids$Cell" (21 : Nat) "SearchGrids$Cell" "trial" "[I" ∈ sg_tbl := gd (i := 69) (by decide +kernel) rfl
theorem wd_32 : Jvm.Cond.fieldLink "SearchGrids$Cell" (24 : Nat) "SearchGrids$Cell" "gains" "[J" ∈ sg_tbl := gd (i := 71) (by decide +kernel) rfl
theorem wd_34 : Jvm.Cond.fieldLink "SearchGrids$Cell" (28 : Nat) "SearchGrids$Cell" "number" "I" ∈ sg_tbl := gd (i := 73) (by decide +kernel) rfl
theorem wd_36 : Jvm.Cond.fieldLink "SearchGrids$Cell" (32 : Nat) "SearchGrids$Cell" "squares" "I" ∈ sg_tbl := gd (i := 75) (by decide +kernel) rfl
theorem wd_38 : Jvm.Cond.fieldLink "SearchGrids$Cell" (35 : Nat) "SearchGrids$Cell" "scale" "I" ∈ sg_tbl := gd (i := 77) (by decide +kernel) rfl
theorem wd_41 : Jvm.Cond.laysFinal "SearchGrids$Cell" "SearchGrids$Cell" "rates" "[I" ∈ sg_tbl := gd (i := 80) (by decide +kernel) rfl
theorem wd_43 : Jvm.Cond.laysFinal "SearchGrids$Cell" "SearchGrids$Cell" "countOf" "[I" ∈ sg_tbl := gd (i := 82) (by decide +kernel) rfl
theorem wd_45 : Jvm.Cond.laysFinal "SearchGrids$Cell" "SearchGrids$Cell" "planned" "[I" ∈ sg_tbl := gd (i := 84) (by decide +kernel) rfl
theorem wd_47 : Jvm.Cond.laysFinal "SearchGrids$Cell" "SearchGrids$Cell" "looked" "[I" ∈ sg_tbl := gd (i := 86) (by decide +kernel) rfl
theorem wd_49 : Jvm.Cond.laysFinal "SearchGrids$Cell" "SearchGrids$Cell" "trial" "[I" ∈ sg_tbl := gd (i := 88) (by decide +kernel) rfl
theorem wd_51 : Jvm.Cond.laysFinal "SearchGrids$Cell" "SearchGrids$Cell" "gains" "[J" ∈ sg_tbl := gd (i := 90) (by decide +kernel) rfl
theorem wd_53 : Jvm.Cond.lays "SearchGrids$Cell" "SearchGrids$Cell" "number" "I" ∈ sg_tbl := gd (i := 92) (by decide +kernel) rfl
theorem wd_55 : Jvm.Cond.lays "SearchGrids$Cell" "SearchGrids$Cell" "squares" "I" ∈ sg_tbl := gd (i := 94) (by decide +kernel) rfl
theorem wd_57 : Jvm.Cond.lays "SearchGrids$Cell" "SearchGrids$Cell" "scale" "I" ∈ sg_tbl := gd (i := 96) (by decide +kernel) rfl
theorem wd_59 : Jvm.Cond.lays "SearchGrids$Cell" "SearchGrids$Cell" "standing" "J" ∈ sg_tbl := gd (i := 98) (by decide +kernel) rfl
theorem wd_62 : Jvm.Cond.arrayClass Jvm.ClassFile.FieldType.int ∈ sg_tbl := gd (i := 101) (by decide +kernel) rfl
theorem wd_63 : Jvm.Cond.arrayClass Jvm.ClassFile.FieldType.long ∈ sg_tbl := gd (i := 102) (by decide +kernel) rfl
theorem wd_64 : Jvm.Cond.classLink "SearchGrids" (27 : Nat) "SearchGrids$Looker" ∈ sg_tbl := gd (i := 103) (by decide +kernel) rfl
theorem wd_66 : Jvm.Cond.instantiable "SearchGrids$Looker" (5 : Nat) ∈ sg_tbl := gd (i := 105) (by decide +kernel) rfl
theorem wd_68 : Jvm.Cond.instanceMethod ({ cls := "SearchGrids$Looker", name := "<init>", desc := "()V" } : Jvm.MethodName) ∈ sg_tbl := gd (i := 107) (by decide +kernel) rfl
set_option maxRecDepth 100000 in
theorem wd_69 : Jvm.Cond.code ({ cls := "SearchGrids$Looker", name := "<init>", desc := "()V" } : Jvm.MethodName) prog_4_method_1_code (1 : Nat) (Option.none : Option Jvm.ClassFile.FieldType) ∈ sg_tbl := gd (i := 108) rfl rfl
theorem wd_70 : Jvm.Cond.methodLink "SearchGrids$Looker" (3 : Nat) ({ cls := "java/lang/Object", name := "<init>", desc := "()V" } : Jvm.MethodName) ∈ sg_tbl := gd (i := 109) (by decide +kernel) rfl
theorem wd_71 : Jvm.Cond.fieldLink "SearchGrids$Looker" (9 : Nat) "SearchGrids$Looker" "useless" "[Z" ∈ sg_tbl := gd (i := 110) (by decide +kernel) rfl
theorem wd_72 : Jvm.Cond.fieldLink "SearchGrids$Looker" (15 : Nat) "SearchGrids$Looker" "hours" "I" ∈ sg_tbl := gd (i := 111) (by decide +kernel) rfl
theorem wd_73 : Jvm.Cond.fieldLink "SearchGrids$Looker" (19 : Nat) "SearchGrids$Looker" "use" "I" ∈ sg_tbl := gd (i := 112) (by decide +kernel) rfl
theorem wd_77 : Jvm.Cond.laysFinal "SearchGrids$Looker" "SearchGrids$Looker" "useless" "[Z" ∈ sg_tbl := gd (i := 116) (by decide +kernel) rfl
theorem wd_79 : Jvm.Cond.lays "SearchGrids$Looker" "SearchGrids$Looker" "hours" "I" ∈ sg_tbl := gd (i := 118) (by decide +kernel) rfl
theorem wd_81 : Jvm.Cond.lays "SearchGrids$Looker" "SearchGrids$Looker" "use" "I" ∈ sg_tbl := gd (i := 120) (by decide +kernel) rfl
theorem wd_83 : Jvm.Cond.lays "SearchGrids$Looker" "SearchGrids$Looker" "given" "I" ∈ sg_tbl := gd (i := 122) (by decide +kernel) rfl
theorem wd_85 : Jvm.Cond.lays "SearchGrids$Looker" "SearchGrids$Looker" "trial" "I" ∈ sg_tbl := gd (i := 124) (by decide +kernel) rfl
theorem wd_88 : Jvm.Cond.arrayClass Jvm.ClassFile.FieldType.boolean ∈ sg_tbl := gd (i := 127) (by decide +kernel) rfl
theorem wd_89 : Jvm.Cond.classLink "SearchGrids" (37 : Nat) "SearchGrids$LookLog" ∈ sg_tbl := gd (i := 128) (by decide +kernel) rfl
theorem wd_90 : Jvm.Cond.instantiable "SearchGrids$LookLog" (6 : Nat) ∈ sg_tbl := gd (i := 129) (by decide +kernel) rfl
theorem wd_92 : Jvm.Cond.instanceMethod ({ cls := "SearchGrids$LookLog", name := "<init>", desc := "()V" } : Jvm.MethodName) ∈ sg_tbl := gd (i := 131) (by decide +kernel) rfl
set_option maxRecDepth 100000 in
theorem wd_93 : Jvm.Cond.code ({ cls := "SearchGrids$LookLog", name := "<init>", desc := "()V" } : Jvm.MethodName) prog_3_method_1_code (1 : Nat) (Option.none : Option Jvm.ClassFile.FieldType) ∈ sg_tbl := gd (i := 132) rfl rfl
theorem wd_94 : Jvm.Cond.methodLink "SearchGrids$LookLog" (3 : Nat) ({ cls := "java/lang/Object", name := "<init>", desc := "()V" } : Jvm.MethodName) ∈ sg_tbl := gd (i := 133) (by decide +kernel) rfl
theorem wd_95 : Jvm.Cond.fieldLink "SearchGrids$LookLog" (9 : Nat) "SearchGrids$LookLog" "lookers" "[I" ∈ sg_tbl := gd (i := 134) (by decide +kernel) rfl
theorem wd_97 : Jvm.Cond.fieldLink "SearchGrids$LookLog" (15 : Nat) "SearchGrids$LookLog" "cells" "[I" ∈ sg_tbl := gd (i := 136) (by decide +kernel) rfl
theorem wd_99 : Jvm.Cond.fieldLink "SearchGrids$LookLog" (18 : Nat) "SearchGrids$LookLog" "hours" "[I" ∈ sg_tbl := gd (i := 138) (by decide +kernel) rfl
theorem wd_101 : Jvm.Cond.fieldLink "SearchGrids$LookLog" (21 : Nat) "SearchGrids$LookLog" "tolds" "[J" ∈ sg_tbl := gd (i := 140) (by decide +kernel) rfl
theorem wd_102 : Jvm.Cond.fieldLink "SearchGrids$LookLog" (25 : Nat) "SearchGrids$LookLog" "byTold" "[I" ∈ sg_tbl := gd (i := 141) (by decide +kernel) rfl
theorem wd_104 : Jvm.Cond.fieldLink "SearchGrids$LookLog" (28 : Nat) "SearchGrids$LookLog" "size" "I" ∈ sg_tbl := gd (i := 143) (by decide +kernel) rfl
theorem wd_106 : Jvm.Cond.laysFinal "SearchGrids$LookLog" "SearchGrids$LookLog" "lookers" "[I" ∈ sg_tbl := gd (i := 145) (by decide +kernel) rfl
theorem wd_108 : Jvm.Cond.laysFinal "SearchGrids$LookLog" "SearchGrids$LookLog" "cells" "[I" ∈ sg_tbl := gd (i := 147) (by decide +kernel) rfl
theorem wd_110 : Jvm.Cond.laysFinal "SearchGrids$LookLog" "SearchGrids$LookLog" "hours" "[I" ∈ sg_tbl := gd (i := 149) (by decide +kernel) rfl
theorem wd_112 : Jvm.Cond.laysFinal "SearchGrids$LookLog" "SearchGrids$LookLog" "tolds" "[J" ∈ sg_tbl := gd (i := 151) (by decide +kernel) rfl
theorem wd_114 : Jvm.Cond.laysFinal "SearchGrids$LookLog" "SearchGrids$LookLog" "byTold" "[I" ∈ sg_tbl := gd (i := 153) (by decide +kernel) rfl
theorem wd_116 : Jvm.Cond.lays "SearchGrids$LookLog" "SearchGrids$LookLog" "size" "I" ∈ sg_tbl := gd (i := 155) (by decide +kernel) rfl
theorem wd_119 : Jvm.Cond.fieldLink "SearchGrids" (10 : Nat) "SearchGrids" "cells" "I" ∈ sg_tbl := gd (i := 158) (by decide +kernel) rfl
theorem wd_120 : Jvm.Cond.fieldLink "SearchGrids" (20 : Nat) "SearchGrids" "toldCells" "[LSearchGrids$Cell;" ∈ sg_tbl := gd (i := 159) (by decide +kernel) rfl
theorem wd_121 : Jvm.Cond.fieldLink "SearchGrids" (111 : Nat) "SearchGrids" "toldCount" "I" ∈ sg_tbl := gd (i := 160) (by decide +kernel) rfl
theorem wd_122 : Jvm.Cond.fieldLink "SearchGrids" (29 : Nat) "SearchGrids" "lookers" "[LSearchGrids$Looker;" ∈ sg_tbl := gd (i := 161) (by decide +kernel) rfl
theorem wd_123 : Jvm.Cond.fieldLink "SearchGrids" (79 : Nat) "SearchGrids" "lookerCount" "I" ∈ sg_tbl := gd (i := 162) (by decide +kernel) rfl
theorem wd_124 : Jvm.Cond.fieldLink "SearchGrids" (14 : Nat) "SearchGrids" "rates" "[I" ∈ sg_tbl := gd (i := 163) (by decide +kernel) rfl
theorem wd_125 : Jvm.Cond.fieldLink "SearchGrids" (34 : Nat) "SearchGrids" "thingCount" "I" ∈ sg_tbl := gd (i := 164) (by decide +kernel) rfl
theorem wd_126 : Jvm.Cond.fieldLink "SearchGrids" (40 : Nat) "SearchGrids" "looks" "LSearchGrids$LookLog;" ∈ sg_tbl := gd (i := 165) (by decide +kernel) rfl
theorem wd_127 : Jvm.Cond.fieldLink "SearchGrids" (44 : Nat) "SearchGrids" "seenCell" "I" ∈ sg_tbl := gd (i := 166) (by decide +kernel) rfl
theorem wd_128 : Jvm.Cond.fieldLink "SearchGrids" (169 : Nat) "SearchGrids" "stopAbove" "J" ∈ sg_tbl := gd (i := 167) (by decide +kernel) rfl
theorem wd_129 : Jvm.Cond.fieldLink "SearchGrids" (173 : Nat) "SearchGrids" "stopBelow" "J" ∈ sg_tbl := gd (i := 168) (by decide +kernel) rfl
theorem wd_130 : Jvm.Cond.fieldLink "SearchGrids" (47 : Nat) "SearchGrids" "gone" "[Z" ∈ sg_tbl := gd (i := 169) (by decide +kernel) rfl
theorem wd_131 : Jvm.Cond.laysFinal "SearchGrids" "SearchGrids" "cells" "I" ∈ sg_tbl := gd (i := 170) (by decide +kernel) rfl
theorem wd_133 : Jvm.Cond.laysFinal "SearchGrids" "SearchGrids" "toldCells" "[LSearchGrids$Cell;" ∈ sg_tbl := gd (i := 172) (by decide +kernel) rfl
theorem wd_135 : Jvm.Cond.lays "SearchGrids" "SearchGrids" "toldCount" "I" ∈ sg_tbl := gd (i := 174) (by decide +kernel) rfl
theorem wd_137 : Jvm.Cond.laysFinal "SearchGrids" "SearchGrids" "lookers" "[LSearchGrids$Looker;" ∈ sg_tbl := gd (i := 176) (by decide +kernel) rfl
theorem wd_139 : Jvm.Cond.lays "SearchGrids" "SearchGrids" "lookerCount" "I" ∈ sg_tbl := gd (i := 178) (by decide +kernel) rfl
theorem wd_141 : Jvm.Cond.laysFinal "SearchGrids" "SearchGrids" "rates" "[I" ∈ sg_tbl := gd (i := 180) (by decide +kernel) rfl
theorem wd_143 : Jvm.Cond.lays "SearchGrids" "SearchGrids" "thingCount" "I" ∈ sg_tbl := gd (i := 182) (by decide +kernel) rfl
theorem wd_145 : Jvm.Cond.laysFinal "SearchGrids" "SearchGrids" "looks" "LSearchGrids$LookLog;" ∈ sg_tbl := gd (i := 184) (by decide +kernel) rfl
theorem wd_147 : Jvm.Cond.lays "SearchGrids" "SearchGrids" "seenCell" "I" ∈ sg_tbl := gd (i := 186) (by decide +kernel) rfl
theorem wd_149 : Jvm.Cond.lays "SearchGrids" "SearchGrids" "stopAbove" "J" ∈ sg_tbl := gd (i := 188) (by decide +kernel) rfl
theorem wd_151 : Jvm.Cond.lays "SearchGrids" "SearchGrids" "stopBelow" "J" ∈ sg_tbl := gd (i := 190) (by decide +kernel) rfl
theorem wd_153 : Jvm.Cond.laysFinal "SearchGrids" "SearchGrids" "gone" "[Z" ∈ sg_tbl := gd (i := 192) (by decide +kernel) rfl
theorem wd_156 : Jvm.Cond.methodLink "SearchGridsLaw" (23 : Nat) ({ cls := "SearchGrids", name := "counts", desc := "(IJ)Z" } : Jvm.MethodName) ∈ sg_tbl := gd (i := 195) (by decide +kernel) rfl
theorem wd_157 : Jvm.Cond.instanceMethod ({ cls := "SearchGrids", name := "counts", desc := "(IJ)Z" } : Jvm.MethodName) ∈ sg_tbl := gd (i := 196) (by decide +kernel) rfl
theorem wd_158 : Jvm.Cond.selects "SearchGrids" ({ cls := "SearchGrids", name := "counts", desc := "(IJ)Z" } : Jvm.MethodName) ({ cls := "SearchGrids", name := "counts", desc := "(IJ)Z" } : Jvm.MethodName) ∈ sg_tbl := gd (i := 197) (by decide +kernel) rfl
set_option maxRecDepth 100000 in
theorem wd_159 : Jvm.Cond.code ({ cls := "SearchGrids", name := "counts", desc := "(IJ)Z" } : Jvm.MethodName) prog_1_method_2_code (4 : Nat) (Option.some Jvm.ClassFile.FieldType.boolean) ∈ sg_tbl := gd (i := 198) rfl rfl
theorem wd_160 : Jvm.Cond.methodLink "SearchGrids" (51 : Nat) ({ cls := "SearchGrids", name := "countsOf", desc := "(IIJ)Z" } : Jvm.MethodName) ∈ sg_tbl := gd (i := 199) (by decide +kernel) rfl
theorem wd_161 : Jvm.Cond.instanceMethod ({ cls := "SearchGrids", name := "countsOf", desc := "(IIJ)Z" } : Jvm.MethodName) ∈ sg_tbl := gd (i := 200) (by decide +kernel) rfl
theorem wd_162 : Jvm.Cond.selects "SearchGrids" ({ cls := "SearchGrids", name := "countsOf", desc := "(IIJ)Z" } : Jvm.MethodName) ({ cls := "SearchGrids", name := "countsOf", desc := "(IIJ)Z" } : Jvm.MethodName) ∈ sg_tbl := gd (i := 201) (by decide +kernel) rfl
set_option maxRecDepth 100000 in
theorem wd_163 : Jvm.Cond.code ({ cls := "SearchGrids", name := "countsOf", desc := "(IIJ)Z" } : Jvm.MethodName) prog_1_method_17_code (6 : Nat) (Option.some Jvm.ClassFile.FieldType.boolean) ∈ sg_tbl := gd (i := 202) rfl rfl
theorem wd_164 : Jvm.Cond.methodLink "SearchGrids" (87 : Nat) ({ cls := "SearchGrids", name := "isWithin", desc := "(JJJ)Z" } : Jvm.MethodName) ∈ sg_tbl := gd (i := 203) (by decide +kernel) rfl
theorem wd_165 : Jvm.Cond.static ({ cls := "SearchGrids", name := "isWithin", desc := "(JJJ)Z" } : Jvm.MethodName) ∈ sg_tbl := gd (i := 204) (by decide +kernel) rfl
set_option maxRecDepth 100000 in
theorem wd_166 : Jvm.Cond.code ({ cls := "SearchGrids", name := "isWithin", desc := "(JJJ)Z" } : Jvm.MethodName) prog_1_method_27_code (6 : Nat) (Option.some Jvm.ClassFile.FieldType.boolean) ∈ sg_tbl := gd (i := 205) rfl rfl
theorem wd_167 : Jvm.Cond.methodLink "SearchGrids" (55 : Nat) ({ cls := "SearchGrids", name := "isCell", desc := "(I)Z" } : Jvm.MethodName) ∈ sg_tbl := gd (i := 206) (by decide +kernel) rfl
theorem wd_169 : Jvm.Cond.instanceMethod ({ cls := "SearchGrids", name := "isCell", desc := "(I)Z" } : Jvm.MethodName) ∈ sg_tbl := gd (i := 208) (by decide +kernel) rfl
set_option maxRecDepth 100000 in
theorem wd_170 : Jvm.Cond.code ({ cls := "SearchGrids", name := "isCell", desc := "(I)Z" } : Jvm.MethodName) prog_1_method_24_code (2 : Nat) (Option.some Jvm.ClassFile.FieldType.boolean) ∈ sg_tbl := gd (i := 209) rfl rfl
theorem wd_171 : Jvm.Cond.constantLong "SearchGrids" (85 : Nat) (1000 : Int64) ∈ sg_tbl := gd (i := 210) (by decide +kernel) rfl
theorem wd_172 : Jvm.Cond.methodLink "SearchGrids" (166 : Nat) ({ cls := "SearchGrids", name := "tellOf", desc := "(I)I" } : Jvm.MethodName) ∈ sg_tbl := gd (i := 211) (by decide +kernel) rfl
theorem wd_174 : Jvm.Cond.instanceMethod ({ cls := "SearchGrids", name := "tellOf", desc := "(I)I" } : Jvm.MethodName) ∈ sg_tbl := gd (i := 213) (by decide +kernel) rfl
set_option maxRecDepth 100000 in
theorem wd_175 : Jvm.Cond.code ({ cls := "SearchGrids", name := "tellOf", desc := "(I)I" } : Jvm.MethodName) prog_1_method_29_code (4 : Nat) (Option.some Jvm.ClassFile.FieldType.int) ∈ sg_tbl := gd (i := 214) rfl rfl
theorem wd_176 : Jvm.Cond.methodLink "SearchGrids" (68 : Nat) ({ cls := "SearchGrids", name := "placeOf", desc := "(I)I" } : Jvm.MethodName) ∈ sg_tbl := gd (i := 215) (by decide +kernel) rfl
theorem wd_178 : Jvm.Cond.instanceMethod ({ cls := "SearchGrids", name := "placeOf", desc := "(I)I" } : Jvm.MethodName) ∈ sg_tbl := gd (i := 217) (by decide +kernel) rfl
set_option maxRecDepth 100000 in
theorem wd_179 : Jvm.Cond.code ({ cls := "SearchGrids", name := "placeOf", desc := "(I)I" } : Jvm.MethodName) prog_1_method_28_code (3 : Nat) (Option.some Jvm.ClassFile.FieldType.int) ∈ sg_tbl := gd (i := 218) rfl rfl
theorem wd_180 : Jvm.Cond.methodLink "SearchGrids" (97 : Nat) ({ cls := "SearchGrids", name := "dropPlan", desc := "()V" } : Jvm.MethodName) ∈ sg_tbl := gd (i := 219) (by decide +kernel) rfl
theorem wd_182 : Jvm.Cond.instanceMethod ({ cls := "SearchGrids", name := "dropPlan", desc := "()V" } : Jvm.MethodName) ∈ sg_tbl := gd (i := 221) (by decide +kernel) rfl
set_option maxRecDepth 100000 in
theorem wd_183 : Jvm.Cond.code ({ cls := "SearchGrids", name := "dropPlan", desc := "()V" } : Jvm.MethodName) prog_1_method_32_code (3 : Nat) (Option.none : Option Jvm.ClassFile.FieldType) ∈ sg_tbl := gd (i := 222) rfl rfl
theorem wd_184 : Jvm.Cond.methodLink "SearchGridsLaw" (28 : Nat) ({ cls := "SearchGrids", name := "odds", desc := "(II)J" } : Jvm.MethodName) ∈ sg_tbl := gd (i := 223) (by decide +kernel) rfl
theorem wd_185 : Jvm.Cond.instanceMethod ({ cls := "SearchGrids", name := "odds", desc := "(II)J" } : Jvm.MethodName) ∈ sg_tbl := gd (i := 224) (by decide +kernel) rfl
theorem wd_186 : Jvm.Cond.selects "SearchGrids" ({ cls := "SearchGrids", name := "odds", desc := "(II)J" } : Jvm.MethodName) ({ cls := "SearchGrids", name := "odds", desc := "(II)J" } : Jvm.MethodName) ∈ sg_tbl := gd (i := 225) (by decide +kernel) rfl
set_option maxRecDepth 100000 in
theorem wd_187 : Jvm.Cond.code ({ cls := "SearchGrids", name := "odds", desc := "(II)J" } : Jvm.MethodName) prog_1_method_3_code (4 : Nat) (Option.some Jvm.ClassFile.FieldType.long) ∈ sg_tbl := gd (i := 226) rfl rfl
theorem wd_188 : Jvm.Cond.methodLink "SearchGrids" (59 : Nat) ({ cls := "SearchGrids", name := "isZeroOrOne", desc := "(I)Z" } : Jvm.MethodName) ∈ sg_tbl := gd (i := 227) (by decide +kernel) rfl
theorem wd_189 : Jvm.Cond.static ({ cls := "SearchGrids", name := "isZeroOrOne", desc := "(I)Z" } : Jvm.MethodName) ∈ sg_tbl := gd (i := 228) (by decide +kernel) rfl
set_option maxRecDepth 100000 in
theorem wd_190 : Jvm.Cond.code ({ cls := "SearchGrids", name := "isZeroOrOne", desc := "(I)Z" } : Jvm.MethodName) prog_1_method_26_code (1 : Nat) (Option.some Jvm.ClassFile.FieldType.boolean) ∈ sg_tbl := gd (i := 229) rfl rfl
theorem wd_191 : Jvm.Cond.constantLong "SearchGrids" (62 : Nat) (-1 : Int64) ∈ sg_tbl := gd (i := 230) (by decide +kernel) rfl
theorem wd_192 : Jvm.Cond.methodLink "SearchGrids" (64 : Nat) ({ cls := "SearchGrids", name := "fraction", desc := "(JJI)J" } : Jvm.MethodName) ∈ sg_tbl := gd (i := 231) (by decide +kernel) rfl
theorem wd_193 : Jvm.Cond.static ({ cls := "SearchGrids", name := "fraction", desc := "(JJI)J" } : Jvm.MethodName) ∈ sg_tbl := gd (i := 232) (by decide +kernel) rfl
set_option maxRecDepth 100000 in
theorem wd_194 : Jvm.Cond.code ({ cls := "SearchGrids", name := "fraction", desc := "(JJI)J" } : Jvm.MethodName) prog_1_method_42_code (7 : Nat) (Option.some Jvm.ClassFile.FieldType.long) ∈ sg_tbl := gd (i := 233) rfl rfl
theorem wd_195 : Jvm.Cond.methodLink "SearchGrids" (228 : Nat) ({ cls := "SearchGrids", name := "commonDivisor", desc := "(JJ)J" } : Jvm.MethodName) ∈ sg_tbl := gd (i := 234) (by decide +kernel) rfl
theorem wd_196 : Jvm.Cond.static ({ cls := "SearchGrids", name := "commonDivisor", desc := "(JJ)J" } : Jvm.MethodName) ∈ sg_tbl := gd (i := 235) (by decide +kernel) rfl
set_option maxRecDepth 100000 in
theorem wd_197 : Jvm.Cond.code ({ cls := "SearchGrids", name := "commonDivisor", desc := "(JJ)J" } : Jvm.MethodName) prog_1_method_43_code (11 : Nat) (Option.some Jvm.ClassFile.FieldType.long) ∈ sg_tbl := gd (i := 236) rfl rfl
theorem wd_198 : Jvm.Cond.methodLink "SearchGrids" (75 : Nat) ({ cls := "SearchGrids", name := "allCounts", desc := "()J" } : Jvm.MethodName) ∈ sg_tbl := gd (i := 237) (by decide +kernel) rfl
theorem wd_200 : Jvm.Cond.instanceMethod ({ cls := "SearchGrids", name := "allCounts", desc := "()J" } : Jvm.MethodName) ∈ sg_tbl := gd (i := 239) (by decide +kernel) rfl
set_option maxRecDepth 100000 in
theorem wd_201 : Jvm.Cond.code ({ cls := "SearchGrids", name := "allCounts", desc := "()J" } : Jvm.MethodName) prog_1_method_30_code (4 : Nat) (Option.some Jvm.ClassFile.FieldType.long) ∈ sg_tbl := gd (i := 240) rfl rfl
theorem wd_202 : Jvm.Cond.methodLink "SearchGridsLaw" (33 : Nat) ({ cls := "SearchGrids", name := "looker", desc := "(JJI)I" } : Jvm.MethodName) ∈ sg_tbl := gd (i := 241) (by decide +kernel) rfl
theorem wd_203 : Jvm.Cond.instanceMethod ({ cls := "SearchGrids", name := "looker", desc := "(JJI)I" } : Jvm.MethodName) ∈ sg_tbl := gd (i := 242) (by decide +kernel) rfl
theorem wd_204 : Jvm.Cond.selects "SearchGrids" ({ cls := "SearchGrids", name := "looker", desc := "(JJI)I" } : Jvm.MethodName) ({ cls := "SearchGrids", name := "looker", desc := "(JJI)I" } : Jvm.MethodName) ∈ sg_tbl := gd (i := 243) (by decide +kernel) rfl
set_option maxRecDepth 100000 in
theorem wd_205 : Jvm.Cond.code ({ cls := "SearchGrids", name := "looker", desc := "(JJI)I" } : Jvm.MethodName) prog_1_method_4_code (7 : Nat) (Option.some Jvm.ClassFile.FieldType.int) ∈ sg_tbl := gd (i := 244) rfl rfl
theorem wd_206 : Jvm.Cond.constantLong "SearchGrids" (91 : Nat) (24 : Int64) ∈ sg_tbl := gd (i := 245) (by decide +kernel) rfl
theorem wd_209 : Jvm.Cond.instanceMethod ({ cls := "SearchGrids$Looker", name := "begin", desc := "(I)V" } : Jvm.MethodName) ∈ sg_tbl := gd (i := 248) (by decide +kernel) rfl
set_option maxRecDepth 100000 in
theorem wd_210 : Jvm.Cond.code ({ cls := "SearchGrids$Looker", name := "begin", desc := "(I)V" } : Jvm.MethodName) prog_4_method_2_code (2 : Nat) (Option.none : Option Jvm.ClassFile.FieldType) ∈ sg_tbl := gd (i := 249) rfl rfl
theorem wd_211 : Jvm.Cond.methodLink "SearchGridsLaw" (38 : Nat) ({ cls := "SearchGrids", name := "bar", desc := "(II)Z" } : Jvm.MethodName) ∈ sg_tbl := gd (i := 250) (by decide +kernel) rfl
theorem wd_212 : Jvm.Cond.instanceMethod ({ cls := "SearchGrids", name := "bar", desc := "(II)Z" } : Jvm.MethodName) ∈ sg_tbl := gd (i := 251) (by decide +kernel) rfl
theorem wd_213 : Jvm.Cond.selects "SearchGrids" ({ cls := "SearchGrids", name := "bar", desc := "(II)Z" } : Jvm.MethodName) ({ cls := "SearchGrids", name := "bar", desc := "(II)Z" } : Jvm.MethodName) ∈ sg_tbl := gd (i := 252) (by decide +kernel) rfl
set_option maxRecDepth 100000 in
theorem wd_214 : Jvm.Cond.code ({ cls := "SearchGrids", name := "bar", desc := "(II)Z" } : Jvm.MethodName) prog_1_method_5_code (3 : Nat) (Option.some Jvm.ClassFile.FieldType.boolean) ∈ sg_tbl := gd (i := 253) rfl rfl
theorem wd_215 : Jvm.Cond.methodLink "SearchGrids" (100 : Nat) ({ cls := "SearchGrids", name := "isLooker", desc := "(I)Z" } : Jvm.MethodName) ∈ sg_tbl := gd (i := 254) (by decide +kernel) rfl
theorem wd_217 : Jvm.Cond.instanceMethod ({ cls := "SearchGrids", name := "isLooker", desc := "(I)Z" } : Jvm.MethodName) ∈ sg_tbl := gd (i := 256) (by decide +kernel) rfl
set_option maxRecDepth 100000 in
theorem wd_218 : Jvm.Cond.code ({ cls := "SearchGrids", name := "isLooker", desc := "(I)Z" } : Jvm.MethodName) prog_1_method_25_code (2 : Nat) (Option.some Jvm.ClassFile.FieldType.boolean) ∈ sg_tbl := gd (i := 257) rfl rfl
theorem wd_219 : Jvm.Cond.constantLong "SearchGrids" (103 : Nat) (23 : Int64) ∈ sg_tbl := gd (i := 258) (by decide +kernel) rfl
theorem wd_222 : Jvm.Cond.instanceMethod ({ cls := "SearchGrids$Looker", name := "takeAway", desc := "(II)V" } : Jvm.MethodName) ∈ sg_tbl := gd (i := 261) (by decide +kernel) rfl
set_option maxRecDepth 100000 in
theorem wd_223 : Jvm.Cond.code ({ cls := "SearchGrids$Looker", name := "takeAway", desc := "(II)V" } : Jvm.MethodName) prog_4_method_3_code (4 : Nat) (Option.none : Option Jvm.ClassFile.FieldType) ∈ sg_tbl := gd (i := 262) rfl rfl
theorem wd_224 : Jvm.Cond.methodLink "SearchGrids$Looker" (22 : Nat) ({ cls := "java/lang/Math", name := "max", desc := "(II)I" } : Jvm.MethodName) ∈ sg_tbl := gd (i := 263) (by decide +kernel) rfl
theorem wd_225 : Jvm.Cond.static ({ cls := "java/lang/Math", name := "max", desc := "(II)I" } : Jvm.MethodName) ∈ sg_tbl := gd (i := 264) (by decide +kernel) rfl
set_option maxRecDepth 100000 in
theorem wd_226 : Jvm.Cond.code ({ cls := "java/lang/Math", name := "max", desc := "(II)I" } : Jvm.MethodName) prog_7_method_65_code (2 : Nat) (Option.some Jvm.ClassFile.FieldType.int) ∈ sg_tbl := gd (i := 265) rfl rfl
theorem wd_227 : Jvm.Cond.methodLink "SearchGridsLaw" (43 : Nat) ({ cls := "SearchGrids", name := "share", desc := "(I)I" } : Jvm.MethodName) ∈ sg_tbl := gd (i := 266) (by decide +kernel) rfl
theorem wd_228 : Jvm.Cond.instanceMethod ({ cls := "SearchGrids", name := "share", desc := "(I)I" } : Jvm.MethodName) ∈ sg_tbl := gd (i := 267) (by decide +kernel) rfl
theorem wd_229 : Jvm.Cond.selects "SearchGrids" ({ cls := "SearchGrids", name := "share", desc := "(I)I" } : Jvm.MethodName) ({ cls := "SearchGrids", name := "share", desc := "(I)I" } : Jvm.MethodName) ∈ sg_tbl := gd (i := 268) (by decide +kernel) rfl
set_option maxRecDepth 100000 in
theorem wd_230 : Jvm.Cond.code ({ cls := "SearchGrids", name := "share", desc := "(I)I" } : Jvm.MethodName) prog_1_method_6_code (3 : Nat) (Option.some Jvm.ClassFile.FieldType.int) ∈ sg_tbl := gd (i := 269) rfl rfl
theorem wd_231 : Jvm.Cond.constantLong "SearchGrids" (109 : Nat) (100 : Int64) ∈ sg_tbl := gd (i := 270) (by decide +kernel) rfl
theorem wd_234 : Jvm.Cond.instanceMethod ({ cls := "SearchGrids$Cell", name := "reckonGains", desc := "()V" } : Jvm.MethodName) ∈ sg_tbl := gd (i := 273) (by decide +kernel) rfl
set_option maxRecDepth 100000 in
theorem wd_235 : Jvm.Cond.code ({ cls := "SearchGrids$Cell", name := "reckonGains", desc := "()V" } : Jvm.MethodName) prog_2_method_7_code (4 : Nat) (Option.none : Option Jvm.ClassFile.FieldType) ∈ sg_tbl := gd (i := 274) rfl rfl
theorem wd_236 : Jvm.Cond.methodLink "SearchGrids$Cell" (61 : Nat) ({ cls := "SearchGrids$Cell", name := "finds", desc := "([I)J" } : Jvm.MethodName) ∈ sg_tbl := gd (i := 275) (by decide +kernel) rfl
theorem wd_238 : Jvm.Cond.instanceMethod ({ cls := "SearchGrids$Cell", name := "finds", desc := "([I)J" } : Jvm.MethodName) ∈ sg_tbl := gd (i := 277) (by decide +kernel) rfl
set_option maxRecDepth 100000 in
theorem wd_239 : Jvm.Cond.code ({ cls := "SearchGrids$Cell", name := "finds", desc := "([I)J" } : Jvm.MethodName) prog_2_method_5_code (2 : Nat) (Option.some Jvm.ClassFile.FieldType.long) ∈ sg_tbl := gd (i := 278) rfl rfl
theorem wd_240 : Jvm.Cond.methodLink "SearchGrids$Cell" (51 : Nat) ({ cls := "SearchGrids$Cell", name := "weight", desc := "()J" } : Jvm.MethodName) ∈ sg_tbl := gd (i := 279) (by decide +kernel) rfl
theorem wd_242 : Jvm.Cond.instanceMethod ({ cls := "SearchGrids$Cell", name := "weight", desc := "()J" } : Jvm.MethodName) ∈ sg_tbl := gd (i := 281) (by decide +kernel) rfl
set_option maxRecDepth 100000 in
theorem wd_243 : Jvm.Cond.code ({ cls := "SearchGrids$Cell", name := "weight", desc := "()J" } : Jvm.MethodName) prog_2_method_2_code (4 : Nat) (Option.some Jvm.ClassFile.FieldType.long) ∈ sg_tbl := gd (i := 282) rfl rfl
theorem wd_244 : Jvm.Cond.constantLong "SearchGrids$Cell" (55 : Nat) (268738560000 : Int64) ∈ sg_tbl := gd (i := 283) (by decide +kernel) rfl
theorem wd_245 : Jvm.Cond.methodLink "SearchGrids$Cell" (57 : Nat) ({ cls := "SearchGrids$Cell", name := "missed", desc := "([I)J" } : Jvm.MethodName) ∈ sg_tbl := gd (i := 284) (by decide +kernel) rfl
theorem wd_247 : Jvm.Cond.instanceMethod ({ cls := "SearchGrids$Cell", name := "missed", desc := "([I)J" } : Jvm.MethodName) ∈ sg_tbl := gd (i := 286) (by decide +kernel) rfl
set_option maxRecDepth 100000 in
theorem wd_248 : Jvm.Cond.code ({ cls := "SearchGrids$Cell", name := "missed", desc := "([I)J" } : Jvm.MethodName) prog_2_method_4_code (5 : Nat) (Option.some Jvm.ClassFile.FieldType.long) ∈ sg_tbl := gd (i := 287) rfl rfl
theorem wd_249 : Jvm.Cond.methodLink "SearchGrids$Cell" (47 : Nat) ({ cls := "SearchGrids$Cell", name := "missedBy", desc := "(II)J" } : Jvm.MethodName) ∈ sg_tbl := gd (i := 288) (by decide +kernel) rfl
theorem wd_251 : Jvm.Cond.instanceMethod ({ cls := "SearchGrids$Cell", name := "missedBy", desc := "(II)J" } : Jvm.MethodName) ∈ sg_tbl := gd (i := 290) (by decide +kernel) rfl
set_option maxRecDepth 100000 in
theorem wd_252 : Jvm.Cond.code ({ cls := "SearchGrids$Cell", name := "missedBy", desc := "(II)J" } : Jvm.MethodName) prog_2_method_3_code (4 : Nat) (Option.some Jvm.ClassFile.FieldType.long) ∈ sg_tbl := gd (i := 291) rfl rfl
theorem wd_253 : Jvm.Cond.methodLink "SearchGrids$Cell" (41 : Nat) ({ cls := "java/lang/Math", name := "min", desc := "(II)I" } : Jvm.MethodName) ∈ sg_tbl := gd (i := 292) (by decide +kernel) rfl
theorem wd_254 : Jvm.Cond.static ({ cls := "java/lang/Math", name := "min", desc := "(II)I" } : Jvm.MethodName) ∈ sg_tbl := gd (i := 293) (by decide +kernel) rfl
set_option maxRecDepth 100000 in
theorem wd_255 : Jvm.Cond.code ({ cls := "java/lang/Math", name := "min", desc := "(II)I" } : Jvm.MethodName) prog_7_method_69_code (2 : Nat) (Option.some Jvm.ClassFile.FieldType.int) ∈ sg_tbl := gd (i := 294) rfl rfl
theorem wd_256 : Jvm.Cond.methodLink "SearchGrids" (117 : Nat) ({ cls := "SearchGrids", name := "giveBestHour", desc := "()Z" } : Jvm.MethodName) ∈ sg_tbl := gd (i := 295) (by decide +kernel) rfl
theorem wd_258 : Jvm.Cond.instanceMethod ({ cls := "SearchGrids", name := "giveBestHour", desc := "()Z" } : Jvm.MethodName) ∈ sg_tbl := gd (i := 297) (by decide +kernel) rfl
set_option maxRecDepth 100000 in
theorem wd_259 : Jvm.Cond.code ({ cls := "SearchGrids", name := "giveBestHour", desc := "()Z" } : Jvm.MethodName) prog_1_method_33_code (8 : Nat) (Option.some Jvm.ClassFile.FieldType.boolean) ∈ sg_tbl := gd (i := 298) rfl rfl
theorem wd_260 : Jvm.Cond.methodLink "SearchGridsLaw" (48 : Nat) ({ cls := "SearchGrids", name := "of", desc := "(II)I" } : Jvm.MethodName) ∈ sg_tbl := gd (i := 299) (by decide +kernel) rfl
theorem wd_261 : Jvm.Cond.instanceMethod ({ cls := "SearchGrids", name := "of", desc := "(II)I" } : Jvm.MethodName) ∈ sg_tbl := gd (i := 300) (by decide +kernel) rfl
theorem wd_262 : Jvm.Cond.selects "SearchGrids" ({ cls := "SearchGrids", name := "of", desc := "(II)I" } : Jvm.MethodName) ({ cls := "SearchGrids", name := "of", desc := "(II)I" } : Jvm.MethodName) ∈ sg_tbl := gd (i := 301) (by decide +kernel) rfl
set_option maxRecDepth 100000 in
theorem wd_263 : Jvm.Cond.code ({ cls := "SearchGrids", name := "of", desc := "(II)I" } : Jvm.MethodName) prog_1_method_7_code (4 : Nat) (Option.some Jvm.ClassFile.FieldType.int) ∈ sg_tbl := gd (i := 302) rfl rfl
theorem wd_264 : Jvm.Cond.methodLink "SearchGridsLaw" (53 : Nat) ({ cls := "SearchGrids", name := "tried", desc := "()Z" } : Jvm.MethodName) ∈ sg_tbl := gd (i := 303) (by decide +kernel) rfl
theorem wd_265 : Jvm.Cond.instanceMethod ({ cls := "SearchGrids", name := "tried", desc := "()Z" } : Jvm.MethodName) ∈ sg_tbl := gd (i := 304) (by decide +kernel) rfl
theorem wd_266 : Jvm.Cond.selects "SearchGrids" ({ cls := "SearchGrids", name := "tried", desc := "()Z" } : Jvm.MethodName) ({ cls := "SearchGrids", name := "tried", desc := "()Z" } : Jvm.MethodName) ∈ sg_tbl := gd (i := 305) (by decide +kernel) rfl
set_option maxRecDepth 100000 in
theorem wd_267 : Jvm.Cond.code ({ cls := "SearchGrids", name := "tried", desc := "()Z" } : Jvm.MethodName) prog_1_method_8_code (2 : Nat) (Option.some Jvm.ClassFile.FieldType.boolean) ∈ sg_tbl := gd (i := 306) rfl rfl
theorem wd_268 : Jvm.Cond.methodLink "SearchGrids" (124 : Nat) ({ cls := "SearchGrids", name := "plannedHours", desc := "()I" } : Jvm.MethodName) ∈ sg_tbl := gd (i := 307) (by decide +kernel) rfl
theorem wd_270 : Jvm.Cond.instanceMethod ({ cls := "SearchGrids", name := "plannedHours", desc := "()I" } : Jvm.MethodName) ∈ sg_tbl := gd (i := 309) (by decide +kernel) rfl
set_option maxRecDepth 100000 in
theorem wd_271 : Jvm.Cond.code ({ cls := "SearchGrids", name := "plannedHours", desc := "()I" } : Jvm.MethodName) prog_1_method_34_code (3 : Nat) (Option.some Jvm.ClassFile.FieldType.int) ∈ sg_tbl := gd (i := 310) rfl rfl
theorem wd_272 : Jvm.Cond.methodLink "SearchGrids" (128 : Nat) ({ cls := "SearchGrids", name := "plannedFinds", desc := "()J" } : Jvm.MethodName) ∈ sg_tbl := gd (i := 311) (by decide +kernel) rfl
theorem wd_274 : Jvm.Cond.instanceMethod ({ cls := "SearchGrids", name := "plannedFinds", desc := "()J" } : Jvm.MethodName) ∈ sg_tbl := gd (i := 313) (by decide +kernel) rfl
set_option maxRecDepth 100000 in
theorem wd_275 : Jvm.Cond.code ({ cls := "SearchGrids", name := "plannedFinds", desc := "()J" } : Jvm.MethodName) prog_1_method_35_code (4 : Nat) (Option.some Jvm.ClassFile.FieldType.long) ∈ sg_tbl := gd (i := 314) rfl rfl
theorem wd_277 : Jvm.Cond.methodLink "SearchGrids" (131 : Nat) ({ cls := "SearchGrids", name := "isOutdone", desc := "(IIIJJ)Z" } : Jvm.MethodName) ∈ sg_tbl := gd (i := 316) (by decide +kernel) rfl
theorem wd_279 : Jvm.Cond.instanceMethod ({ cls := "SearchGrids", name := "isOutdone", desc := "(IIIJJ)Z" } : Jvm.MethodName) ∈ sg_tbl := gd (i := 318) (by decide +kernel) rfl
set_option maxRecDepth 100000 in
theorem wd_280 : Jvm.Cond.code ({ cls := "SearchGrids", name := "isOutdone", desc := "(IIIJJ)Z" } : Jvm.MethodName) prog_1_method_36_code (13 : Nat) (Option.some Jvm.ClassFile.FieldType.boolean) ∈ sg_tbl := gd (i := 319) rfl rfl
theorem wd_281 : Jvm.Cond.methodLink "SearchGrids" (223 : Nat) ({ cls := "java/lang/Math", name := "min", desc := "(II)I" } : Jvm.MethodName) ∈ sg_tbl := gd (i := 320) (by decide +kernel) rfl
theorem wd_282 : Jvm.Cond.methodLink "SearchGridsLaw" (58 : Nat) ({ cls := "SearchGrids", name := "look", desc := "(IIJJ)I" } : Jvm.MethodName) ∈ sg_tbl := gd (i := 321) (by decide +kernel) rfl
theorem wd_283 : Jvm.Cond.instanceMethod ({ cls := "SearchGrids", name := "look", desc := "(IIJJ)I" } : Jvm.MethodName) ∈ sg_tbl := gd (i := 322) (by decide +kernel) rfl
theorem wd_284 : Jvm.Cond.selects "SearchGrids" ({ cls := "SearchGrids", name := "look", desc := "(IIJJ)I" } : Jvm.MethodName) ({ cls := "SearchGrids", name := "look", desc := "(IIJJ)I" } : Jvm.MethodName) ∈ sg_tbl := gd (i := 323) (by decide +kernel) rfl
set_option maxRecDepth 100000 in
theorem wd_285 : Jvm.Cond.code ({ cls := "SearchGrids", name := "look", desc := "(IIJJ)I" } : Jvm.MethodName) prog_1_method_9_code (9 : Nat) (Option.some Jvm.ClassFile.FieldType.int) ∈ sg_tbl := gd (i := 324) rfl rfl
theorem wd_288 : Jvm.Cond.instanceMethod ({ cls := "SearchGrids$LookLog", name := "add", desc := "(IIIJ)I" } : Jvm.MethodName) ∈ sg_tbl := gd (i := 327) (by decide +kernel) rfl
set_option maxRecDepth 100000 in
theorem wd_289 : Jvm.Cond.code ({ cls := "SearchGrids$LookLog", name := "add", desc := "(IIIJ)I" } : Jvm.MethodName) prog_3_method_2_code (8 : Nat) (Option.some Jvm.ClassFile.FieldType.int) ∈ sg_tbl := gd (i := 328) rfl rfl
theorem wd_290 : Jvm.Cond.methodLink "SearchGridsLaw" (63 : Nat) ({ cls := "SearchGrids", name := "after", desc := "(II)J" } : Jvm.MethodName) ∈ sg_tbl := gd (i := 329) (by decide +kernel) rfl
theorem wd_291 : Jvm.Cond.instanceMethod ({ cls := "SearchGrids", name := "after", desc := "(II)J" } : Jvm.MethodName) ∈ sg_tbl := gd (i := 330) (by decide +kernel) rfl
theorem wd_292 : Jvm.Cond.selects "SearchGrids" ({ cls := "SearchGrids", name := "after", desc := "(II)J" } : Jvm.MethodName) ({ cls := "SearchGrids", name := "after", desc := "(II)J" } : Jvm.MethodName) ∈ sg_tbl := gd (i := 331) (by decide +kernel) rfl
set_option maxRecDepth 100000 in
theorem wd_293 : Jvm.Cond.code ({ cls := "SearchGrids", name := "after", desc := "(II)J" } : Jvm.MethodName) prog_1_method_10_code (4 : Nat) (Option.some Jvm.ClassFile.FieldType.long) ∈ sg_tbl := gd (i := 332) rfl rfl
theorem wd_296 : Jvm.Cond.instanceMethod ({ cls := "SearchGrids$Cell", name := "remains", desc := "()J" } : Jvm.MethodName) ∈ sg_tbl := gd (i := 335) (by decide +kernel) rfl
set_option maxRecDepth 100000 in
theorem wd_297 : Jvm.Cond.code ({ cls := "SearchGrids$Cell", name := "remains", desc := "()J" } : Jvm.MethodName) prog_2_method_6_code (1 : Nat) (Option.some Jvm.ClassFile.FieldType.long) ∈ sg_tbl := gd (i := 336) rfl rfl
theorem wd_298 : Jvm.Cond.methodLink "SearchGrids" (145 : Nat) ({ cls := "SearchGrids", name := "allRemains", desc := "()J" } : Jvm.MethodName) ∈ sg_tbl := gd (i := 337) (by decide +kernel) rfl
theorem wd_300 : Jvm.Cond.instanceMethod ({ cls := "SearchGrids", name := "allRemains", desc := "()J" } : Jvm.MethodName) ∈ sg_tbl := gd (i := 339) (by decide +kernel) rfl
set_option maxRecDepth 100000 in
theorem wd_301 : Jvm.Cond.code ({ cls := "SearchGrids", name := "allRemains", desc := "()J" } : Jvm.MethodName) prog_1_method_31_code (4 : Nat) (Option.some Jvm.ClassFile.FieldType.long) ∈ sg_tbl := gd (i := 340) rfl rfl
theorem wd_302 : Jvm.Cond.methodLink "SearchGridsLaw" (67 : Nat) ({ cls := "SearchGrids", name := "sums", desc := "()Z" } : Jvm.MethodName) ∈ sg_tbl := gd (i := 341) (by decide +kernel) rfl
theorem wd_303 : Jvm.Cond.instanceMethod ({ cls := "SearchGrids", name := "sums", desc := "()Z" } : Jvm.MethodName) ∈ sg_tbl := gd (i := 342) (by decide +kernel) rfl
theorem wd_304 : Jvm.Cond.selects "SearchGrids" ({ cls := "SearchGrids", name := "sums", desc := "()Z" } : Jvm.MethodName) ({ cls := "SearchGrids", name := "sums", desc := "()Z" } : Jvm.MethodName) ∈ sg_tbl := gd (i := 343) (by decide +kernel) rfl
set_option maxRecDepth 100000 in
theorem wd_305 : Jvm.Cond.code ({ cls := "SearchGrids", name := "sums", desc := "()Z" } : Jvm.MethodName) prog_1_method_11_code (1 : Nat) (Option.some Jvm.ClassFile.FieldType.boolean) ∈ sg_tbl := gd (i := 344) rfl rfl
theorem wd_306 : Jvm.Cond.methodLink "SearchGridsLaw" (71 : Nat) ({ cls := "SearchGrids", name := "found", desc := "(I)J" } : Jvm.MethodName) ∈ sg_tbl := gd (i := 345) (by decide +kernel) rfl
theorem wd_307 : Jvm.Cond.instanceMethod ({ cls := "SearchGrids", name := "found", desc := "(I)J" } : Jvm.MethodName) ∈ sg_tbl := gd (i := 346) (by decide +kernel) rfl
theorem wd_308 : Jvm.Cond.selects "SearchGrids" ({ cls := "SearchGrids", name := "found", desc := "(I)J" } : Jvm.MethodName) ({ cls := "SearchGrids", name := "found", desc := "(I)J" } : Jvm.MethodName) ∈ sg_tbl := gd (i := 347) (by decide +kernel) rfl
set_option maxRecDepth 100000 in
theorem wd_309 : Jvm.Cond.code ({ cls := "SearchGrids", name := "found", desc := "(I)J" } : Jvm.MethodName) prog_1_method_12_code (5 : Nat) (Option.some Jvm.ClassFile.FieldType.long) ∈ sg_tbl := gd (i := 348) rfl rfl
theorem wd_311 : Jvm.Cond.constantLong "SearchGrids" (151 : Nat) (268738560000 : Int64) ∈ sg_tbl := gd (i := 350) (by decide +kernel) rfl
theorem wd_312 : Jvm.Cond.methodLink "SearchGridsLaw" (76 : Nat) ({ cls := "SearchGrids", name := "line", desc := "(III)I" } : Jvm.MethodName) ∈ sg_tbl := gd (i := 351) (by decide +kernel) rfl
theorem wd_313 : Jvm.Cond.instanceMethod ({ cls := "SearchGrids", name := "line", desc := "(III)I" } : Jvm.MethodName) ∈ sg_tbl := gd (i := 352) (by decide +kernel) rfl
theorem wd_314 : Jvm.Cond.selects "SearchGrids" ({ cls := "SearchGrids", name := "line", desc := "(III)I" } : Jvm.MethodName) ({ cls := "SearchGrids", name := "line", desc := "(III)I" } : Jvm.MethodName) ∈ sg_tbl := gd (i := 353) (by decide +kernel) rfl
set_option maxRecDepth 100000 in
theorem wd_315 : Jvm.Cond.code ({ cls := "SearchGrids", name := "line", desc := "(III)I" } : Jvm.MethodName) prog_1_method_13_code (6 : Nat) (Option.some Jvm.ClassFile.FieldType.int) ∈ sg_tbl := gd (i := 354) rfl rfl
theorem wd_316 : Jvm.Cond.methodLink "SearchGrids" (156 : Nat) ({ cls := "SearchGrids", name := "rowWidth", desc := "(I)I" } : Jvm.MethodName) ∈ sg_tbl := gd (i := 355) (by decide +kernel) rfl
theorem wd_317 : Jvm.Cond.static ({ cls := "SearchGrids", name := "rowWidth", desc := "(I)I" } : Jvm.MethodName) ∈ sg_tbl := gd (i := 356) (by decide +kernel) rfl
set_option maxRecDepth 100000 in
theorem wd_318 : Jvm.Cond.code ({ cls := "SearchGrids", name := "rowWidth", desc := "(I)I" } : Jvm.MethodName) prog_1_method_39_code (3 : Nat) (Option.some Jvm.ClassFile.FieldType.int) ∈ sg_tbl := gd (i := 357) rfl rfl
theorem wd_319 : Jvm.Cond.methodLink "SearchGrids" (159 : Nat) ({ cls := "SearchGrids", name := "placeInRow", desc := "(II)I" } : Jvm.MethodName) ∈ sg_tbl := gd (i := 358) (by decide +kernel) rfl
theorem wd_320 : Jvm.Cond.static ({ cls := "SearchGrids", name := "placeInRow", desc := "(II)I" } : Jvm.MethodName) ∈ sg_tbl := gd (i := 359) (by decide +kernel) rfl
set_option maxRecDepth 100000 in
theorem wd_321 : Jvm.Cond.code ({ cls := "SearchGrids", name := "placeInRow", desc := "(II)I" } : Jvm.MethodName) prog_1_method_41_code (3 : Nat) (Option.some Jvm.ClassFile.FieldType.int) ∈ sg_tbl := gd (i := 360) rfl rfl
theorem wd_322 : Jvm.Cond.methodLink "SearchGrids" (163 : Nat) ({ cls := "SearchGrids", name := "rowOf", desc := "(II)I" } : Jvm.MethodName) ∈ sg_tbl := gd (i := 361) (by decide +kernel) rfl
theorem wd_323 : Jvm.Cond.static ({ cls := "SearchGrids", name := "rowOf", desc := "(II)I" } : Jvm.MethodName) ∈ sg_tbl := gd (i := 362) (by decide +kernel) rfl
set_option maxRecDepth 100000 in
theorem wd_324 : Jvm.Cond.code ({ cls := "SearchGrids", name := "rowOf", desc := "(II)I" } : Jvm.MethodName) prog_1_method_40_code (2 : Nat) (Option.some Jvm.ClassFile.FieldType.int) ∈ sg_tbl := gd (i := 363) rfl rfl
theorem wd_325 : Jvm.Cond.methodLink "SearchGridsLaw" (81 : Nat) ({ cls := "SearchGrids", name := "covers", desc := "(I)Z" } : Jvm.MethodName) ∈ sg_tbl := gd (i := 364) (by decide +kernel) rfl
theorem wd_326 : Jvm.Cond.instanceMethod ({ cls := "SearchGrids", name := "covers", desc := "(I)Z" } : Jvm.MethodName) ∈ sg_tbl := gd (i := 365) (by decide +kernel) rfl
theorem wd_327 : Jvm.Cond.selects "SearchGrids" ({ cls := "SearchGrids", name := "covers", desc := "(I)Z" } : Jvm.MethodName) ({ cls := "SearchGrids", name := "covers", desc := "(I)Z" } : Jvm.MethodName) ∈ sg_tbl := gd (i := 366) (by decide +kernel) rfl
set_option maxRecDepth 100000 in
theorem wd_328 : Jvm.Cond.code ({ cls := "SearchGrids", name := "covers", desc := "(I)Z" } : Jvm.MethodName) prog_1_method_14_code (7 : Nat) (Option.some Jvm.ClassFile.FieldType.boolean) ∈ sg_tbl := gd (i := 367) rfl rfl
theorem wd_329 : Jvm.Cond.methodLink "SearchGridsLaw" (86 : Nat) ({ cls := "SearchGrids", name := "rest", desc := "(III)Z" } : Jvm.MethodName) ∈ sg_tbl := gd (i := 368) (by decide +kernel) rfl
theorem wd_330 : Jvm.Cond.instanceMethod ({ cls := "SearchGrids", name := "rest", desc := "(III)Z" } : Jvm.MethodName) ∈ sg_tbl := gd (i := 369) (by decide +kernel) rfl
theorem wd_331 : Jvm.Cond.selects "SearchGrids" ({ cls := "SearchGrids", name := "rest", desc := "(III)Z" } : Jvm.MethodName) ({ cls := "SearchGrids", name := "rest", desc := "(III)Z" } : Jvm.MethodName) ∈ sg_tbl := gd (i := 370) (by decide +kernel) rfl
set_option maxRecDepth 100000 in
theorem wd_332 : Jvm.Cond.code ({ cls := "SearchGrids", name := "rest", desc := "(III)Z" } : Jvm.MethodName) prog_1_method_15_code (4 : Nat) (Option.some Jvm.ClassFile.FieldType.boolean) ∈ sg_tbl := gd (i := 371) rfl rfl
theorem wd_333 : Jvm.Cond.methodLink "SearchGridsLaw" (91 : Nat) ({ cls := "SearchGrids", name := "thing", desc := "()I" } : Jvm.MethodName) ∈ sg_tbl := gd (i := 372) (by decide +kernel) rfl
theorem wd_334 : Jvm.Cond.instanceMethod ({ cls := "SearchGrids", name := "thing", desc := "()I" } : Jvm.MethodName) ∈ sg_tbl := gd (i := 373) (by decide +kernel) rfl
theorem wd_335 : Jvm.Cond.selects "SearchGrids" ({ cls := "SearchGrids", name := "thing", desc := "()I" } : Jvm.MethodName) ({ cls := "SearchGrids", name := "thing", desc := "()I" } : Jvm.MethodName) ∈ sg_tbl := gd (i := 374) (by decide +kernel) rfl
set_option maxRecDepth 100000 in
theorem wd_336 : Jvm.Cond.code ({ cls := "SearchGrids", name := "thing", desc := "()I" } : Jvm.MethodName) prog_1_method_16_code (2 : Nat) (Option.some Jvm.ClassFile.FieldType.int) ∈ sg_tbl := gd (i := 375) rfl rfl
theorem wd_337 : Jvm.Cond.methodLink "SearchGridsLaw" (96 : Nat) ({ cls := "SearchGrids", name := "countsOf", desc := "(IIJ)Z" } : Jvm.MethodName) ∈ sg_tbl := gd (i := 376) (by decide +kernel) rfl
theorem wd_338 : Jvm.Cond.methodLink "SearchGridsLaw" (101 : Nat) ({ cls := "SearchGrids", name := "stop", desc := "(JJ)Z" } : Jvm.MethodName) ∈ sg_tbl := gd (i := 377) (by decide +kernel) rfl
theorem wd_339 : Jvm.Cond.instanceMethod ({ cls := "SearchGrids", name := "stop", desc := "(JJ)Z" } : Jvm.MethodName) ∈ sg_tbl := gd (i := 378) (by decide +kernel) rfl
theorem wd_340 : Jvm.Cond.selects "SearchGrids" ({ cls := "SearchGrids", name := "stop", desc := "(JJ)Z" } : Jvm.MethodName) ({ cls := "SearchGrids", name := "stop", desc := "(JJ)Z" } : Jvm.MethodName) ∈ sg_tbl := gd (i := 379) (by decide +kernel) rfl
set_option maxRecDepth 100000 in
theorem wd_341 : Jvm.Cond.code ({ cls := "SearchGrids", name := "stop", desc := "(JJ)Z" } : Jvm.MethodName) prog_1_method_18_code (5 : Nat) (Option.some Jvm.ClassFile.FieldType.boolean) ∈ sg_tbl := gd (i := 380) rfl rfl
theorem wd_342 : Jvm.Cond.methodLink "SearchGridsLaw" (106 : Nat) ({ cls := "SearchGrids", name := "stops", desc := "()I" } : Jvm.MethodName) ∈ sg_tbl := gd (i := 381) (by decide +kernel) rfl
theorem wd_343 : Jvm.Cond.instanceMethod ({ cls := "SearchGrids", name := "stops", desc := "()I" } : Jvm.MethodName) ∈ sg_tbl := gd (i := 382) (by decide +kernel) rfl
theorem wd_344 : Jvm.Cond.selects "SearchGrids" ({ cls := "SearchGrids", name := "stops", desc := "()I" } : Jvm.MethodName) ({ cls := "SearchGrids", name := "stops", desc := "()I" } : Jvm.MethodName) ∈ sg_tbl := gd (i := 383) (by decide +kernel) rfl
set_option maxRecDepth 100000 in
theorem wd_345 : Jvm.Cond.code ({ cls := "SearchGrids", name := "stops", desc := "()I" } : Jvm.MethodName) prog_1_method_19_code (3 : Nat) (Option.some Jvm.ClassFile.FieldType.int) ∈ sg_tbl := gd (i := 384) rfl rfl
theorem wd_346 : Jvm.Cond.methodLink "SearchGridsLaw" (110 : Nat) ({ cls := "SearchGrids", name := "order", desc := "(I)I" } : Jvm.MethodName) ∈ sg_tbl := gd (i := 385) (by decide +kernel) rfl
theorem wd_347 : Jvm.Cond.instanceMethod ({ cls := "SearchGrids", name := "order", desc := "(I)I" } : Jvm.MethodName) ∈ sg_tbl := gd (i := 386) (by decide +kernel) rfl
theorem wd_348 : Jvm.Cond.selects "SearchGrids" ({ cls := "SearchGrids", name := "order", desc := "(I)I" } : Jvm.MethodName) ({ cls := "SearchGrids", name := "order", desc := "(I)I" } : Jvm.MethodName) ∈ sg_tbl := gd (i := 387) (by decide +kernel) rfl
set_option maxRecDepth 100000 in
theorem wd_349 : Jvm.Cond.code ({ cls := "SearchGrids", name := "order", desc := "(I)I" } : Jvm.MethodName) prog_1_method_20_code (3 : Nat) (Option.some Jvm.ClassFile.FieldType.int) ∈ sg_tbl := gd (i := 388) rfl rfl
theorem wd_350 : Jvm.Cond.methodLink "SearchGrids" (176 : Nat) ({ cls := "SearchGrids", name := "standingOf", desc := "(LSearchGrids$Cell;)J" } : Jvm.MethodName) ∈ sg_tbl := gd (i := 389) (by decide +kernel) rfl
theorem wd_352 : Jvm.Cond.instanceMethod ({ cls := "SearchGrids", name := "standingOf", desc := "(LSearchGrids$Cell;)J" } : Jvm.MethodName) ∈ sg_tbl := gd (i := 391) (by decide +kernel) rfl
set_option maxRecDepth 100000 in
theorem wd_353 : Jvm.Cond.code ({ cls := "SearchGrids", name := "standingOf", desc := "(LSearchGrids$Cell;)J" } : Jvm.MethodName) prog_1_method_37_code (2 : Nat) (Option.some Jvm.ClassFile.FieldType.long) ∈ sg_tbl := gd (i := 392) rfl rfl
theorem wd_354 : Jvm.Cond.methodLink "SearchGrids" (183 : Nat) ({ cls := "SearchGrids", name := "countBefore", desc := "(I)I" } : Jvm.MethodName) ∈ sg_tbl := gd (i := 393) (by decide +kernel) rfl
theorem wd_356 : Jvm.Cond.instanceMethod ({ cls := "SearchGrids", name := "countBefore", desc := "(I)I" } : Jvm.MethodName) ∈ sg_tbl := gd (i := 395) (by decide +kernel) rfl
set_option maxRecDepth 100000 in
theorem wd_357 : Jvm.Cond.code ({ cls := "SearchGrids", name := "countBefore", desc := "(I)I" } : Jvm.MethodName) prog_1_method_38_code (6 : Nat) (Option.some Jvm.ClassFile.FieldType.int) ∈ sg_tbl := gd (i := 396) rfl rfl
theorem wd_358 : Jvm.Cond.methodLink "SearchGridsLaw" (114 : Nat) ({ cls := "SearchGrids", name := "seen", desc := "(II)Z" } : Jvm.MethodName) ∈ sg_tbl := gd (i := 397) (by decide +kernel) rfl
theorem wd_359 : Jvm.Cond.instanceMethod ({ cls := "SearchGrids", name := "seen", desc := "(II)Z" } : Jvm.MethodName) ∈ sg_tbl := gd (i := 398) (by decide +kernel) rfl
theorem wd_360 : Jvm.Cond.selects "SearchGrids" ({ cls := "SearchGrids", name := "seen", desc := "(II)Z" } : Jvm.MethodName) ({ cls := "SearchGrids", name := "seen", desc := "(II)Z" } : Jvm.MethodName) ∈ sg_tbl := gd (i := 399) (by decide +kernel) rfl
set_option maxRecDepth 100000 in
theorem wd_361 : Jvm.Cond.code ({ cls := "SearchGrids", name := "seen", desc := "(II)Z" } : Jvm.MethodName) prog_1_method_21_code (4 : Nat) (Option.some Jvm.ClassFile.FieldType.boolean) ∈ sg_tbl := gd (i := 400) rfl rfl
theorem wd_362 : Jvm.Cond.methodLink "SearchGridsLaw" (118 : Nat) ({ cls := "SearchGrids", name := "log", desc := "(II)I" } : Jvm.MethodName) ∈ sg_tbl := gd (i := 401) (by decide +kernel) rfl
theorem wd_363 : Jvm.Cond.instanceMethod ({ cls := "SearchGrids", name := "log", desc := "(II)I" } : Jvm.MethodName) ∈ sg_tbl := gd (i := 402) (by decide +kernel) rfl
theorem wd_364 : Jvm.Cond.selects "SearchGrids" ({ cls := "SearchGrids", name := "log", desc := "(II)I" } : Jvm.MethodName) ({ cls := "SearchGrids", name := "log", desc := "(II)I" } : Jvm.MethodName) ∈ sg_tbl := gd (i := 403) (by decide +kernel) rfl
set_option maxRecDepth 100000 in
theorem wd_365 : Jvm.Cond.code ({ cls := "SearchGrids", name := "log", desc := "(II)I" } : Jvm.MethodName) prog_1_method_22_code (4 : Nat) (Option.some Jvm.ClassFile.FieldType.int) ∈ sg_tbl := gd (i := 404) rfl rfl
theorem wd_366 : Jvm.Cond.methodLink "SearchGridsLaw" (122 : Nat) ({ cls := "SearchGrids", name := "area", desc := "(IJ)Z" } : Jvm.MethodName) ∈ sg_tbl := gd (i := 405) (by decide +kernel) rfl
theorem wd_367 : Jvm.Cond.instanceMethod ({ cls := "SearchGrids", name := "area", desc := "(IJ)Z" } : Jvm.MethodName) ∈ sg_tbl := gd (i := 406) (by decide +kernel) rfl
theorem wd_368 : Jvm.Cond.selects "SearchGrids" ({ cls := "SearchGrids", name := "area", desc := "(IJ)Z" } : Jvm.MethodName) ({ cls := "SearchGrids", name := "area", desc := "(IJ)Z" } : Jvm.MethodName) ∈ sg_tbl := gd (i := 407) (by decide +kernel) rfl
set_option maxRecDepth 100000 in
theorem wd_369 : Jvm.Cond.code ({ cls := "SearchGrids", name := "area", desc := "(IJ)Z" } : Jvm.MethodName) prog_1_method_23_code (6 : Nat) (Option.some Jvm.ClassFile.FieldType.boolean) ∈ sg_tbl := gd (i := 408) rfl rfl
theorem wd_370 : Jvm.Cond.constantLong "SearchGrids" (199 : Nat) (720 : Int64) ∈ sg_tbl := gd (i := 409) (by decide +kernel) rfl
theorem wd_371 : Jvm.Cond.methodLink "SearchGridsLaw" (9 : Nat) ({ cls := "SearchGridsLaw", name := "cell", desc := "([II)I" } : Jvm.MethodName) ∈ sg_tbl := gd (i := 410) (by decide +kernel) rfl
theorem wd_372 : Jvm.Cond.static ({ cls := "SearchGridsLaw", name := "cell", desc := "([II)I" } : Jvm.MethodName) ∈ sg_tbl := gd (i := 411) (by decide +kernel) rfl
set_option maxRecDepth 100000 in
theorem wd_373 : Jvm.Cond.code ({ cls := "SearchGridsLaw", name := "cell", desc := "([II)I" } : Jvm.MethodName) method_2_code (2 : Nat) (Option.some Jvm.ClassFile.FieldType.int) ∈ sg_tbl := gd (i := 412) rfl rfl
theorem wd_374 : Jvm.Cond.classLink "SearchGridsLaw" (18 : Nat) "SearchGridsModel" ∈ sg_tbl := gd (i := 413) (by decide +kernel) rfl
theorem wd_375 : Jvm.Cond.instantiable "SearchGridsModel" (21 : Nat) ∈ sg_tbl := gd (i := 414) (by decide +kernel) rfl
theorem wd_376 : Jvm.Cond.methodLink "SearchGridsLaw" (20 : Nat) ({ cls := "SearchGridsModel", name := "<init>", desc := "(I)V" } : Jvm.MethodName) ∈ sg_tbl := gd (i := 415) (by decide +kernel) rfl
theorem wd_377 : Jvm.Cond.instanceMethod ({ cls := "SearchGridsModel", name := "<init>", desc := "(I)V" } : Jvm.MethodName) ∈ sg_tbl := gd (i := 416) (by decide +kernel) rfl
set_option maxRecDepth 100000 in
theorem wd_378 : Jvm.Cond.code ({ cls := "SearchGridsModel", name := "<init>", desc := "(I)V" } : Jvm.MethodName) prog_6_method_1_code (2 : Nat) (Option.none : Option Jvm.ClassFile.FieldType) ∈ sg_tbl := gd (i := 417) rfl rfl
theorem wd_379 : Jvm.Cond.methodLink "SearchGridsModel" (1 : Nat) ({ cls := "java/lang/Object", name := "<init>", desc := "()V" } : Jvm.MethodName) ∈ sg_tbl := gd (i := 418) (by decide +kernel) rfl
theorem wd_380 : Jvm.Cond.constant "SearchGridsModel" (58 : Nat) (65536 : Int32) ∈ sg_tbl := gd (i := 419) (by decide +kernel) rfl
theorem wd_381 : Jvm.Cond.fieldLink "SearchGridsModel" (59 : Nat) "SearchGridsModel" "cells" "I" ∈ sg_tbl := gd (i := 420) (by decide +kernel) rfl
theorem wd_382 : Jvm.Cond.fieldLink "SearchGridsModel" (65 : Nat) "SearchGridsModel" "told" "I" ∈ sg_tbl := gd (i := 421) (by decide +kernel) rfl
theorem wd_383 : Jvm.Cond.fieldLink "SearchGridsModel" (7 : Nat) "SearchGridsModel" "cell" "[I" ∈ sg_tbl := gd (i := 422) (by decide +kernel) rfl
theorem wd_384 : Jvm.Cond.fieldLink "SearchGridsModel" (13 : Nat) "SearchGridsModel" "areas" "[I" ∈ sg_tbl := gd (i := 423) (by decide +kernel) rfl
theorem wd_385 : Jvm.Cond.fieldLink "SearchGridsModel" (16 : Nat) "SearchGridsModel" "count" "[I" ∈ sg_tbl := gd (i := 424) (by decide +kernel) rfl
theorem wd_386 : Jvm.Cond.fieldLink "SearchGridsModel" (19 : Nat) "SearchGridsModel" "things" "I" ∈ sg_tbl := gd (i := 425) (by decide +kernel) rfl
theorem wd_387 : Jvm.Cond.fieldLink "SearchGridsModel" (62 : Nat) "SearchGridsModel" "lookers" "I" ∈ sg_tbl := gd (i := 426) (by decide +kernel) rfl
theorem wd_388 : Jvm.Cond.fieldLink "SearchGridsModel" (23 : Nat) "SearchGridsModel" "rate" "[I" ∈ sg_tbl := gd (i := 427) (by decide +kernel) rfl
theorem wd_389 : Jvm.Cond.fieldLink "SearchGridsModel" (26 : Nat) "SearchGridsModel" "hours" "[I" ∈ sg_tbl := gd (i := 428) (by decide +kernel) rfl
theorem wd_390 : Jvm.Cond.fieldLink "SearchGridsModel" (29 : Nat) "SearchGridsModel" "barred" "[Z" ∈ sg_tbl := gd (i := 429) (by decide +kernel) rfl
theorem wd_391 : Jvm.Cond.fieldLink "SearchGridsModel" (33 : Nat) "SearchGridsModel" "plan" "[I" ∈ sg_tbl := gd (i := 430) (by decide +kernel) rfl
theorem wd_392 : Jvm.Cond.fieldLink "SearchGridsModel" (36 : Nat) "SearchGridsModel" "trial" "[I" ∈ sg_tbl := gd (i := 431) (by decide +kernel) rfl
theorem wd_393 : Jvm.Cond.fieldLink "SearchGridsModel" (39 : Nat) "SearchGridsModel" "looked" "[I" ∈ sg_tbl := gd (i := 432) (by decide +kernel) rfl
theorem wd_394 : Jvm.Cond.fieldLink "SearchGridsModel" (92 : Nat) "SearchGridsModel" "looks" "I" ∈ sg_tbl := gd (i := 433) (by decide +kernel) rfl
theorem wd_395 : Jvm.Cond.fieldLink "SearchGridsModel" (42 : Nat) "SearchGridsModel" "lookLooker" "[I" ∈ sg_tbl := gd (i := 434) (by decide +kernel) rfl
theorem wd_396 : Jvm.Cond.fieldLink "SearchGridsModel" (45 : Nat) "SearchGridsModel" "lookCell" "[I" ∈ sg_tbl := gd (i := 435) (by decide +kernel) rfl
theorem wd_397 : Jvm.Cond.fieldLink "SearchGridsModel" (48 : Nat) "SearchGridsModel" "lookHours" "[I" ∈ sg_tbl := gd (i := 436) (by decide +kernel) rfl
theorem wd_398 : Jvm.Cond.fieldLink "SearchGridsModel" (51 : Nat) "SearchGridsModel" "lookTold" "[J" ∈ sg_tbl := gd (i := 437) (by decide +kernel) rfl
theorem wd_399 : Jvm.Cond.fieldLink "SearchGridsModel" (55 : Nat) "SearchGridsModel" "seenAt" "I" ∈ sg_tbl := gd (i := 438) (by decide +kernel) rfl
theorem wd_400 : Jvm.Cond.fieldLink "SearchGridsModel" (106 : Nat) "SearchGridsModel" "above" "J" ∈ sg_tbl := gd (i := 439) (by decide +kernel) rfl
theorem wd_401 : Jvm.Cond.fieldLink "SearchGridsModel" (110 : Nat) "SearchGridsModel" "below" "J" ∈ sg_tbl := gd (i := 440) (by decide +kernel) rfl
theorem wd_402 : Jvm.Cond.laysFinal "SearchGridsModel" "SearchGridsModel" "cells" "I" ∈ sg_tbl := gd (i := 441) (by decide +kernel) rfl
theorem wd_404 : Jvm.Cond.lays "SearchGridsModel" "SearchGridsModel" "told" "I" ∈ sg_tbl := gd (i := 443) (by decide +kernel) rfl
theorem wd_406 : Jvm.Cond.laysFinal "SearchGridsModel" "SearchGridsModel" "cell" "[I" ∈ sg_tbl := gd (i := 445) (by decide +kernel) rfl
theorem wd_408 : Jvm.Cond.laysFinal "SearchGridsModel" "SearchGridsModel" "areas" "[I" ∈ sg_tbl := gd (i := 447) (by decide +kernel) rfl
theorem wd_410 : Jvm.Cond.laysFinal "SearchGridsModel" "SearchGridsModel" "count" "[I" ∈ sg_tbl := gd (i := 449) (by decide +kernel) rfl
theorem wd_412 : Jvm.Cond.lays "SearchGridsModel" "SearchGridsModel" "things" "I" ∈ sg_tbl := gd (i := 451) (by decide +kernel) rfl
theorem wd_414 : Jvm.Cond.lays "SearchGridsModel" "SearchGridsModel" "lookers" "I" ∈ sg_tbl := gd (i := 453) (by decide +kernel) rfl
theorem wd_416 : Jvm.Cond.laysFinal "SearchGridsModel" "SearchGridsModel" "rate" "[I" ∈ sg_tbl := gd (i := 455) (by decide +kernel) rfl
theorem wd_418 : Jvm.Cond.laysFinal "SearchGridsModel" "SearchGridsModel" "hours" "[I" ∈ sg_tbl := gd (i := 457) (by decide +kernel) rfl
theorem wd_420 : Jvm.Cond.laysFinal "SearchGridsModel" "SearchGridsModel" "barred" "[Z" ∈ sg_tbl := gd (i := 459) (by decide +kernel) rfl
theorem wd_422 : Jvm.Cond.laysFinal "SearchGridsModel" "SearchGridsModel" "plan" "[I" ∈ sg_tbl := gd (i := 461) (by decide +kernel) rfl
theorem wd_424 : Jvm.Cond.laysFinal "SearchGridsModel" "SearchGridsModel" "trial" "[I" ∈ sg_tbl := gd (i := 463) (by decide +kernel) rfl
theorem wd_426 : Jvm.Cond.laysFinal "SearchGridsModel" "SearchGridsModel" "looked" "[I" ∈ sg_tbl := gd (i := 465) (by decide +kernel) rfl
theorem wd_428 : Jvm.Cond.lays "SearchGridsModel" "SearchGridsModel" "looks" "I" ∈ sg_tbl := gd (i := 467) (by decide +kernel) rfl
theorem wd_430 : Jvm.Cond.laysFinal "SearchGridsModel" "SearchGridsModel" "lookLooker" "[I" ∈ sg_tbl := gd (i := 469) (by decide +kernel) rfl
theorem wd_432 : Jvm.Cond.laysFinal "SearchGridsModel" "SearchGridsModel" "lookCell" "[I" ∈ sg_tbl := gd (i := 471) (by decide +kernel) rfl
theorem wd_434 : Jvm.Cond.laysFinal "SearchGridsModel" "SearchGridsModel" "lookHours" "[I" ∈ sg_tbl := gd (i := 473) (by decide +kernel) rfl
theorem wd_436 : Jvm.Cond.laysFinal "SearchGridsModel" "SearchGridsModel" "lookTold" "[J" ∈ sg_tbl := gd (i := 475) (by decide +kernel) rfl
theorem wd_438 : Jvm.Cond.lays "SearchGridsModel" "SearchGridsModel" "seenAt" "I" ∈ sg_tbl := gd (i := 477) (by decide +kernel) rfl
theorem wd_440 : Jvm.Cond.lays "SearchGridsModel" "SearchGridsModel" "above" "J" ∈ sg_tbl := gd (i := 479) (by decide +kernel) rfl
theorem wd_442 : Jvm.Cond.lays "SearchGridsModel" "SearchGridsModel" "below" "J" ∈ sg_tbl := gd (i := 481) (by decide +kernel) rfl
theorem wd_445 : Jvm.Cond.methodLink "SearchGridsLaw" (27 : Nat) ({ cls := "SearchGridsModel", name := "counts", desc := "(IJ)Z" } : Jvm.MethodName) ∈ sg_tbl := gd (i := 484) (by decide +kernel) rfl
theorem wd_446 : Jvm.Cond.instanceMethod ({ cls := "SearchGridsModel", name := "counts", desc := "(IJ)Z" } : Jvm.MethodName) ∈ sg_tbl := gd (i := 485) (by decide +kernel) rfl
theorem wd_447 : Jvm.Cond.selects "SearchGridsModel" ({ cls := "SearchGridsModel", name := "counts", desc := "(IJ)Z" } : Jvm.MethodName) ({ cls := "SearchGridsModel", name := "counts", desc := "(IJ)Z" } : Jvm.MethodName) ∈ sg_tbl := gd (i := 486) (by decide +kernel) rfl
set_option maxRecDepth 100000 in
theorem wd_448 : Jvm.Cond.code ({ cls := "SearchGridsModel", name := "counts", desc := "(IJ)Z" } : Jvm.MethodName) prog_6_method_8_code (4 : Nat) (Option.some Jvm.ClassFile.FieldType.boolean) ∈ sg_tbl := gd (i := 487) rfl rfl
theorem wd_449 : Jvm.Cond.methodLink "SearchGridsModel" (76 : Nat) ({ cls := "SearchGridsModel", name := "countsOf", desc := "(IIJ)Z" } : Jvm.MethodName) ∈ sg_tbl := gd (i := 488) (by decide +kernel) rfl
theorem wd_450 : Jvm.Cond.instanceMethod ({ cls := "SearchGridsModel", name := "countsOf", desc := "(IIJ)Z" } : Jvm.MethodName) ∈ sg_tbl := gd (i := 489) (by decide +kernel) rfl
theorem wd_451 : Jvm.Cond.selects "SearchGridsModel" ({ cls := "SearchGridsModel", name := "countsOf", desc := "(IIJ)Z" } : Jvm.MethodName) ({ cls := "SearchGridsModel", name := "countsOf", desc := "(IIJ)Z" } : Jvm.MethodName) ∈ sg_tbl := gd (i := 490) (by decide +kernel) rfl
set_option maxRecDepth 100000 in
theorem wd_452 : Jvm.Cond.code ({ cls := "SearchGridsModel", name := "countsOf", desc := "(IIJ)Z" } : Jvm.MethodName) prog_6_method_9_code (6 : Nat) (Option.some Jvm.ClassFile.FieldType.boolean) ∈ sg_tbl := gd (i := 491) rfl rfl
theorem wd_453 : Jvm.Cond.methodLink "SearchGridsModel" (80 : Nat) ({ cls := "SearchGridsModel", name := "isCell", desc := "(I)Z" } : Jvm.MethodName) ∈ sg_tbl := gd (i := 492) (by decide +kernel) rfl
theorem wd_455 : Jvm.Cond.instanceMethod ({ cls := "SearchGridsModel", name := "isCell", desc := "(I)Z" } : Jvm.MethodName) ∈ sg_tbl := gd (i := 494) (by decide +kernel) rfl
set_option maxRecDepth 100000 in
theorem wd_456 : Jvm.Cond.code ({ cls := "SearchGridsModel", name := "isCell", desc := "(I)Z" } : Jvm.MethodName) prog_6_method_2_code (2 : Nat) (Option.some Jvm.ClassFile.FieldType.boolean) ∈ sg_tbl := gd (i := 495) rfl rfl
theorem wd_457 : Jvm.Cond.constantLong "SearchGridsModel" (84 : Nat) (1000 : Int64) ∈ sg_tbl := gd (i := 496) (by decide +kernel) rfl
theorem wd_458 : Jvm.Cond.methodLink "SearchGridsModel" (68 : Nat) ({ cls := "SearchGridsModel", name := "place", desc := "(I)I" } : Jvm.MethodName) ∈ sg_tbl := gd (i := 497) (by decide +kernel) rfl
theorem wd_460 : Jvm.Cond.instanceMethod ({ cls := "SearchGridsModel", name := "place", desc := "(I)I" } : Jvm.MethodName) ∈ sg_tbl := gd (i := 499) (by decide +kernel) rfl
set_option maxRecDepth 100000 in
theorem wd_461 : Jvm.Cond.code ({ cls := "SearchGridsModel", name := "place", desc := "(I)I" } : Jvm.MethodName) prog_6_method_4_code (3 : Nat) (Option.some Jvm.ClassFile.FieldType.int) ∈ sg_tbl := gd (i := 500) rfl rfl
theorem wd_462 : Jvm.Cond.methodLink "SearchGridsModel" (86 : Nat) ({ cls := "SearchGridsModel", name := "tell", desc := "(I)I" } : Jvm.MethodName) ∈ sg_tbl := gd (i := 501) (by decide +kernel) rfl
theorem wd_464 : Jvm.Cond.instanceMethod ({ cls := "SearchGridsModel", name := "tell", desc := "(I)I" } : Jvm.MethodName) ∈ sg_tbl := gd (i := 503) (by decide +kernel) rfl
set_option maxRecDepth 100000 in
theorem wd_465 : Jvm.Cond.code ({ cls := "SearchGridsModel", name := "tell", desc := "(I)I" } : Jvm.MethodName) prog_6_method_5_code (5 : Nat) (Option.some Jvm.ClassFile.FieldType.int) ∈ sg_tbl := gd (i := 504) rfl rfl
theorem wd_466 : Jvm.Cond.methodLink "SearchGridsModel" (72 : Nat) ({ cls := "SearchGridsModel", name := "move", desc := "(II)V" } : Jvm.MethodName) ∈ sg_tbl := gd (i := 505) (by decide +kernel) rfl
theorem wd_468 : Jvm.Cond.instanceMethod ({ cls := "SearchGridsModel", name := "move", desc := "(II)V" } : Jvm.MethodName) ∈ sg_tbl := gd (i := 507) (by decide +kernel) rfl
set_option maxRecDepth 100000 in
theorem wd_469 : Jvm.Cond.code ({ cls := "SearchGridsModel", name := "move", desc := "(II)V" } : Jvm.MethodName) prog_6_method_6_code (4 : Nat) (Option.none : Option Jvm.ClassFile.FieldType) ∈ sg_tbl := gd (i := 508) rfl rfl
theorem wd_470 : Jvm.Cond.methodLink "SearchGridsModel" (89 : Nat) ({ cls := "SearchGridsModel", name := "changed", desc := "()V" } : Jvm.MethodName) ∈ sg_tbl := gd (i := 509) (by decide +kernel) rfl
theorem wd_472 : Jvm.Cond.instanceMethod ({ cls := "SearchGridsModel", name := "changed", desc := "()V" } : Jvm.MethodName) ∈ sg_tbl := gd (i := 511) (by decide +kernel) rfl
set_option maxRecDepth 100000 in
theorem wd_473 : Jvm.Cond.code ({ cls := "SearchGridsModel", name := "changed", desc := "()V" } : Jvm.MethodName) prog_6_method_7_code (2 : Nat) (Option.none : Option Jvm.ClassFile.FieldType) ∈ sg_tbl := gd (i := 512) rfl rfl
theorem wd_474 : Jvm.Cond.methodLink "SearchGridsLaw" (100 : Nat) ({ cls := "SearchGridsModel", name := "countsOf", desc := "(IIJ)Z" } : Jvm.MethodName) ∈ sg_tbl := gd (i := 513) (by decide +kernel) rfl
theorem wd_475 : Jvm.Cond.methodLink "SearchGridsLaw" (37 : Nat) ({ cls := "SearchGridsModel", name := "looker", desc := "(JJI)I" } : Jvm.MethodName) ∈ sg_tbl := gd (i := 514) (by decide +kernel) rfl
theorem wd_476 : Jvm.Cond.instanceMethod ({ cls := "SearchGridsModel", name := "looker", desc := "(JJI)I" } : Jvm.MethodName) ∈ sg_tbl := gd (i := 515) (by decide +kernel) rfl
theorem wd_477 : Jvm.Cond.selects "SearchGridsModel" ({ cls := "SearchGridsModel", name := "looker", desc := "(JJI)I" } : Jvm.MethodName) ({ cls := "SearchGridsModel", name := "looker", desc := "(JJI)I" } : Jvm.MethodName) ∈ sg_tbl := gd (i := 516) (by decide +kernel) rfl
set_option maxRecDepth 100000 in
theorem wd_478 : Jvm.Cond.code ({ cls := "SearchGridsModel", name := "looker", desc := "(JJI)I" } : Jvm.MethodName) prog_6_method_10_code (6 : Nat) (Option.some Jvm.ClassFile.FieldType.int) ∈ sg_tbl := gd (i := 517) rfl rfl
theorem wd_479 : Jvm.Cond.methodLink "SearchGridsLaw" (42 : Nat) ({ cls := "SearchGridsModel", name := "bar", desc := "(II)Z" } : Jvm.MethodName) ∈ sg_tbl := gd (i := 518) (by decide +kernel) rfl
theorem wd_480 : Jvm.Cond.instanceMethod ({ cls := "SearchGridsModel", name := "bar", desc := "(II)Z" } : Jvm.MethodName) ∈ sg_tbl := gd (i := 519) (by decide +kernel) rfl
theorem wd_481 : Jvm.Cond.selects "SearchGridsModel" ({ cls := "SearchGridsModel", name := "bar", desc := "(II)Z" } : Jvm.MethodName) ({ cls := "SearchGridsModel", name := "bar", desc := "(II)Z" } : Jvm.MethodName) ∈ sg_tbl := gd (i := 520) (by decide +kernel) rfl
set_option maxRecDepth 100000 in
theorem wd_482 : Jvm.Cond.code ({ cls := "SearchGridsModel", name := "bar", desc := "(II)Z" } : Jvm.MethodName) prog_6_method_11_code (3 : Nat) (Option.some Jvm.ClassFile.FieldType.boolean) ∈ sg_tbl := gd (i := 521) rfl rfl
theorem wd_483 : Jvm.Cond.methodLink "SearchGridsModel" (95 : Nat) ({ cls := "SearchGridsModel", name := "rest", desc := "(III)Z" } : Jvm.MethodName) ∈ sg_tbl := gd (i := 522) (by decide +kernel) rfl
theorem wd_484 : Jvm.Cond.instanceMethod ({ cls := "SearchGridsModel", name := "rest", desc := "(III)Z" } : Jvm.MethodName) ∈ sg_tbl := gd (i := 523) (by decide +kernel) rfl
theorem wd_485 : Jvm.Cond.selects "SearchGridsModel" ({ cls := "SearchGridsModel", name := "rest", desc := "(III)Z" } : Jvm.MethodName) ({ cls := "SearchGridsModel", name := "rest", desc := "(III)Z" } : Jvm.MethodName) ∈ sg_tbl := gd (i := 524) (by decide +kernel) rfl
set_option maxRecDepth 100000 in
theorem wd_486 : Jvm.Cond.code ({ cls := "SearchGridsModel", name := "rest", desc := "(III)Z" } : Jvm.MethodName) prog_6_method_12_code (5 : Nat) (Option.some Jvm.ClassFile.FieldType.boolean) ∈ sg_tbl := gd (i := 525) rfl rfl
theorem wd_487 : Jvm.Cond.methodLink "SearchGridsModel" (99 : Nat) ({ cls := "SearchGridsModel", name := "isLooker", desc := "(I)Z" } : Jvm.MethodName) ∈ sg_tbl := gd (i := 526) (by decide +kernel) rfl
theorem wd_489 : Jvm.Cond.instanceMethod ({ cls := "SearchGridsModel", name := "isLooker", desc := "(I)Z" } : Jvm.MethodName) ∈ sg_tbl := gd (i := 528) (by decide +kernel) rfl
set_option maxRecDepth 100000 in
theorem wd_490 : Jvm.Cond.code ({ cls := "SearchGridsModel", name := "isLooker", desc := "(I)Z" } : Jvm.MethodName) prog_6_method_3_code (2 : Nat) (Option.some Jvm.ClassFile.FieldType.boolean) ∈ sg_tbl := gd (i := 529) rfl rfl
theorem wd_491 : Jvm.Cond.methodLink "SearchGridsLaw" (90 : Nat) ({ cls := "SearchGridsModel", name := "rest", desc := "(III)Z" } : Jvm.MethodName) ∈ sg_tbl := gd (i := 530) (by decide +kernel) rfl
theorem wd_492 : Jvm.Cond.methodLink "SearchGridsLaw" (95 : Nat) ({ cls := "SearchGridsModel", name := "thing", desc := "()I" } : Jvm.MethodName) ∈ sg_tbl := gd (i := 531) (by decide +kernel) rfl
theorem wd_493 : Jvm.Cond.instanceMethod ({ cls := "SearchGridsModel", name := "thing", desc := "()I" } : Jvm.MethodName) ∈ sg_tbl := gd (i := 532) (by decide +kernel) rfl
theorem wd_494 : Jvm.Cond.selects "SearchGridsModel" ({ cls := "SearchGridsModel", name := "thing", desc := "()I" } : Jvm.MethodName) ({ cls := "SearchGridsModel", name := "thing", desc := "()I" } : Jvm.MethodName) ∈ sg_tbl := gd (i := 533) (by decide +kernel) rfl
set_option maxRecDepth 100000 in
theorem wd_495 : Jvm.Cond.code ({ cls := "SearchGridsModel", name := "thing", desc := "()I" } : Jvm.MethodName) prog_6_method_13_code (1 : Nat) (Option.some Jvm.ClassFile.FieldType.int) ∈ sg_tbl := gd (i := 534) rfl rfl
theorem wd_496 : Jvm.Cond.methodLink "SearchGridsLaw" (125 : Nat) ({ cls := "SearchGridsModel", name := "area", desc := "(IJ)Z" } : Jvm.MethodName) ∈ sg_tbl := gd (i := 535) (by decide +kernel) rfl
theorem wd_497 : Jvm.Cond.instanceMethod ({ cls := "SearchGridsModel", name := "area", desc := "(IJ)Z" } : Jvm.MethodName) ∈ sg_tbl := gd (i := 536) (by decide +kernel) rfl
theorem wd_498 : Jvm.Cond.selects "SearchGridsModel" ({ cls := "SearchGridsModel", name := "area", desc := "(IJ)Z" } : Jvm.MethodName) ({ cls := "SearchGridsModel", name := "area", desc := "(IJ)Z" } : Jvm.MethodName) ∈ sg_tbl := gd (i := 537) (by decide +kernel) rfl
set_option maxRecDepth 100000 in
theorem wd_499 : Jvm.Cond.code ({ cls := "SearchGridsModel", name := "area", desc := "(IJ)Z" } : Jvm.MethodName) prog_6_method_14_code (5 : Nat) (Option.some Jvm.ClassFile.FieldType.boolean) ∈ sg_tbl := gd (i := 538) rfl rfl
theorem wd_500 : Jvm.Cond.constantLong "SearchGridsModel" (102 : Nat) (720 : Int64) ∈ sg_tbl := gd (i := 539) (by decide +kernel) rfl
theorem wd_501 : Jvm.Cond.methodLink "SearchGridsLaw" (105 : Nat) ({ cls := "SearchGridsModel", name := "stop", desc := "(JJ)Z" } : Jvm.MethodName) ∈ sg_tbl := gd (i := 540) (by decide +kernel) rfl
theorem wd_502 : Jvm.Cond.instanceMethod ({ cls := "SearchGridsModel", name := "stop", desc := "(JJ)Z" } : Jvm.MethodName) ∈ sg_tbl := gd (i := 541) (by decide +kernel) rfl
theorem wd_503 : Jvm.Cond.selects "SearchGridsModel" ({ cls := "SearchGridsModel", name := "stop", desc := "(JJ)Z" } : Jvm.MethodName) ({ cls := "SearchGridsModel", name := "stop", desc := "(JJ)Z" } : Jvm.MethodName) ∈ sg_tbl := gd (i := 542) (by decide +kernel) rfl
set_option maxRecDepth 100000 in
theorem wd_504 : Jvm.Cond.code ({ cls := "SearchGridsModel", name := "stop", desc := "(JJ)Z" } : Jvm.MethodName) prog_6_method_15_code (5 : Nat) (Option.some Jvm.ClassFile.FieldType.boolean) ∈ sg_tbl := gd (i := 543) rfl rfl
theorem wd_505 : Jvm.Cond.constantLong "SearchGridsModel" (104 : Nat) (100 : Int64) ∈ sg_tbl := gd (i := 544) (by decide +kernel) rfl
theorem wd_506 : Jvm.Cond.methodLink "SearchGridsLaw" (47 : Nat) ({ cls := "SearchGridsModel", name := "share", desc := "(I)I" } : Jvm.MethodName) ∈ sg_tbl := gd (i := 545) (by decide +kernel) rfl
theorem wd_507 : Jvm.Cond.instanceMethod ({ cls := "SearchGridsModel", name := "share", desc := "(I)I" } : Jvm.MethodName) ∈ sg_tbl := gd (i := 546) (by decide +kernel) rfl
theorem wd_508 : Jvm.Cond.selects "SearchGridsModel" ({ cls := "SearchGridsModel", name := "share", desc := "(I)I" } : Jvm.MethodName) ({ cls := "SearchGridsModel", name := "share", desc := "(I)I" } : Jvm.MethodName) ∈ sg_tbl := gd (i := 547) (by decide +kernel) rfl
set_option maxRecDepth 100000 in
theorem wd_509 : Jvm.Cond.code ({ cls := "SearchGridsModel", name := "share", desc := "(I)I" } : Jvm.MethodName) prog_6_method_22_code (13 : Nat) (Option.some Jvm.ClassFile.FieldType.int) ∈ sg_tbl := gd (i := 548) rfl rfl
theorem wd_510 : Jvm.Cond.methodLink "SearchGridsModel" (126 : Nat) ({ cls := "SearchGridsModel", name := "worth", desc := "([I)J" } : Jvm.MethodName) ∈ sg_tbl := gd (i := 549) (by decide +kernel) rfl
theorem wd_512 : Jvm.Cond.instanceMethod ({ cls := "SearchGridsModel", name := "worth", desc := "([I)J" } : Jvm.MethodName) ∈ sg_tbl := gd (i := 551) (by decide +kernel) rfl
set_option maxRecDepth 100000 in
theorem wd_513 : Jvm.Cond.code ({ cls := "SearchGridsModel", name := "worth", desc := "([I)J" } : Jvm.MethodName) prog_6_method_18_code (5 : Nat) (Option.some Jvm.ClassFile.FieldType.long) ∈ sg_tbl := gd (i := 552) rfl rfl
theorem wd_514 : Jvm.Cond.methodLink "SearchGridsModel" (113 : Nat) ({ cls := "SearchGridsModel", name := "weight", desc := "(I)I" } : Jvm.MethodName) ∈ sg_tbl := gd (i := 553) (by decide +kernel) rfl
theorem wd_516 : Jvm.Cond.instanceMethod ({ cls := "SearchGridsModel", name := "weight", desc := "(I)I" } : Jvm.MethodName) ∈ sg_tbl := gd (i := 555) (by decide +kernel) rfl
set_option maxRecDepth 100000 in
theorem wd_517 : Jvm.Cond.code ({ cls := "SearchGridsModel", name := "weight", desc := "(I)I" } : Jvm.MethodName) prog_6_method_17_code (2 : Nat) (Option.some Jvm.ClassFile.FieldType.int) ∈ sg_tbl := gd (i := 556) rfl rfl
theorem wd_518 : Jvm.Cond.constantLong "SearchGridsModel" (116 : Nat) (268738560000 : Int64) ∈ sg_tbl := gd (i := 557) (by decide +kernel) rfl
theorem wd_519 : Jvm.Cond.methodLink "SearchGridsModel" (118 : Nat) ({ cls := "SearchGridsModel", name := "missed", desc := "([II)J" } : Jvm.MethodName) ∈ sg_tbl := gd (i := 558) (by decide +kernel) rfl
theorem wd_521 : Jvm.Cond.instanceMethod ({ cls := "SearchGridsModel", name := "missed", desc := "([II)J" } : Jvm.MethodName) ∈ sg_tbl := gd (i := 560) (by decide +kernel) rfl
set_option maxRecDepth 100000 in
theorem wd_522 : Jvm.Cond.code ({ cls := "SearchGridsModel", name := "missed", desc := "([II)J" } : Jvm.MethodName) prog_6_method_16_code (8 : Nat) (Option.some Jvm.ClassFile.FieldType.long) ∈ sg_tbl := gd (i := 561) rfl rfl
theorem wd_523 : Jvm.Cond.methodLink "SearchGridsModel" (122 : Nat) ({ cls := "SearchGridsModel", name := "given", desc := "([II)I" } : Jvm.MethodName) ∈ sg_tbl := gd (i := 562) (by decide +kernel) rfl
theorem wd_525 : Jvm.Cond.instanceMethod ({ cls := "SearchGridsModel", name := "given", desc := "([II)I" } : Jvm.MethodName) ∈ sg_tbl := gd (i := 564) (by decide +kernel) rfl
set_option maxRecDepth 100000 in
theorem wd_526 : Jvm.Cond.code ({ cls := "SearchGridsModel", name := "given", desc := "([II)I" } : Jvm.MethodName) prog_6_method_20_code (5 : Nat) (Option.some Jvm.ClassFile.FieldType.int) ∈ sg_tbl := gd (i := 565) rfl rfl
theorem wd_527 : Jvm.Cond.methodLink "SearchGridsModel" (130 : Nat) ({ cls := "SearchGridsModel", name := "use", desc := "(I)I" } : Jvm.MethodName) ∈ sg_tbl := gd (i := 566) (by decide +kernel) rfl
theorem wd_529 : Jvm.Cond.instanceMethod ({ cls := "SearchGridsModel", name := "use", desc := "(I)I" } : Jvm.MethodName) ∈ sg_tbl := gd (i := 568) (by decide +kernel) rfl
set_option maxRecDepth 100000 in
theorem wd_530 : Jvm.Cond.code ({ cls := "SearchGridsModel", name := "use", desc := "(I)I" } : Jvm.MethodName) prog_6_method_19_code (4 : Nat) (Option.some Jvm.ClassFile.FieldType.int) ∈ sg_tbl := gd (i := 569) rfl rfl
theorem wd_531 : Jvm.Cond.methodLink "SearchGridsModel" (133 : Nat) ({ cls := "SearchGridsModel", name := "size", desc := "()I" } : Jvm.MethodName) ∈ sg_tbl := gd (i := 570) (by decide +kernel) rfl
theorem wd_533 : Jvm.Cond.instanceMethod ({ cls := "SearchGridsModel", name := "size", desc := "()I" } : Jvm.MethodName) ∈ sg_tbl := gd (i := 572) (by decide +kernel) rfl
set_option maxRecDepth 100000 in
theorem wd_534 : Jvm.Cond.code ({ cls := "SearchGridsModel", name := "size", desc := "()I" } : Jvm.MethodName) prog_6_method_21_code (3 : Nat) (Option.some Jvm.ClassFile.FieldType.int) ∈ sg_tbl := gd (i := 573) rfl rfl
theorem wd_535 : Jvm.Cond.methodLink "SearchGridsLaw" (52 : Nat) ({ cls := "SearchGridsModel", name := "of", desc := "(II)I" } : Jvm.MethodName) ∈ sg_tbl := gd (i := 574) (by decide +kernel) rfl
theorem wd_536 : Jvm.Cond.instanceMethod ({ cls := "SearchGridsModel", name := "of", desc := "(II)I" } : Jvm.MethodName) ∈ sg_tbl := gd (i := 575) (by decide +kernel) rfl
theorem wd_537 : Jvm.Cond.selects "SearchGridsModel" ({ cls := "SearchGridsModel", name := "of", desc := "(II)I" } : Jvm.MethodName) ({ cls := "SearchGridsModel", name := "of", desc := "(II)I" } : Jvm.MethodName) ∈ sg_tbl := gd (i := 576) (by decide +kernel) rfl
set_option maxRecDepth 100000 in
theorem wd_538 : Jvm.Cond.code ({ cls := "SearchGridsModel", name := "of", desc := "(II)I" } : Jvm.MethodName) prog_6_method_23_code (3 : Nat) (Option.some Jvm.ClassFile.FieldType.int) ∈ sg_tbl := gd (i := 577) rfl rfl
theorem wd_539 : Jvm.Cond.methodLink "SearchGridsLaw" (57 : Nat) ({ cls := "SearchGridsModel", name := "tried", desc := "()Z" } : Jvm.MethodName) ∈ sg_tbl := gd (i := 578) (by decide +kernel) rfl
theorem wd_540 : Jvm.Cond.instanceMethod ({ cls := "SearchGridsModel", name := "tried", desc := "()Z" } : Jvm.MethodName) ∈ sg_tbl := gd (i := 579) (by decide +kernel) rfl
theorem wd_541 : Jvm.Cond.selects "SearchGridsModel" ({ cls := "SearchGridsModel", name := "tried", desc := "()Z" } : Jvm.MethodName) ({ cls := "SearchGridsModel", name := "tried", desc := "()Z" } : Jvm.MethodName) ∈ sg_tbl := gd (i := 580) (by decide +kernel) rfl
set_option maxRecDepth 100000 in
theorem wd_542 : Jvm.Cond.code ({ cls := "SearchGridsModel", name := "tried", desc := "()Z" } : Jvm.MethodName) prog_6_method_24_code (5 : Nat) (Option.some Jvm.ClassFile.FieldType.boolean) ∈ sg_tbl := gd (i := 581) rfl rfl
theorem wd_543 : Jvm.Cond.methodLink "SearchGridsModel" (137 : Nat) ({ cls := "SearchGridsModel", name := "isBetter", desc := "(IIJ)Z" } : Jvm.MethodName) ∈ sg_tbl := gd (i := 582) (by decide +kernel) rfl
theorem wd_545 : Jvm.Cond.instanceMethod ({ cls := "SearchGridsModel", name := "isBetter", desc := "(IIJ)Z" } : Jvm.MethodName) ∈ sg_tbl := gd (i := 584) (by decide +kernel) rfl
set_option maxRecDepth 100000 in
theorem wd_546 : Jvm.Cond.code ({ cls := "SearchGridsModel", name := "isBetter", desc := "(IIJ)Z" } : Jvm.MethodName) prog_6_method_25_code (9 : Nat) (Option.some Jvm.ClassFile.FieldType.boolean) ∈ sg_tbl := gd (i := 585) rfl rfl
theorem wd_547 : Jvm.Cond.methodLink "SearchGridsModel" (140 : Nat) ({ cls := "SearchGridsModel", name := "slot", desc := "(I)I" } : Jvm.MethodName) ∈ sg_tbl := gd (i := 586) (by decide +kernel) rfl
theorem wd_549 : Jvm.Cond.instanceMethod ({ cls := "SearchGridsModel", name := "slot", desc := "(I)I" } : Jvm.MethodName) ∈ sg_tbl := gd (i := 588) (by decide +kernel) rfl
set_option maxRecDepth 100000 in
theorem wd_550 : Jvm.Cond.code ({ cls := "SearchGridsModel", name := "slot", desc := "(I)I" } : Jvm.MethodName) prog_6_method_26_code (2 : Nat) (Option.some Jvm.ClassFile.FieldType.int) ∈ sg_tbl := gd (i := 589) rfl rfl
theorem wd_551 : Jvm.Cond.methodLink "SearchGridsLaw" (32 : Nat) ({ cls := "SearchGridsModel", name := "odds", desc := "(II)J" } : Jvm.MethodName) ∈ sg_tbl := gd (i := 590) (by decide +kernel) rfl
theorem wd_552 : Jvm.Cond.instanceMethod ({ cls := "SearchGridsModel", name := "odds", desc := "(II)J" } : Jvm.MethodName) ∈ sg_tbl := gd (i := 591) (by decide +kernel) rfl
theorem wd_553 : Jvm.Cond.selects "SearchGridsModel" ({ cls := "SearchGridsModel", name := "odds", desc := "(II)J" } : Jvm.MethodName) ({ cls := "SearchGridsModel", name := "odds", desc := "(II)J" } : Jvm.MethodName) ∈ sg_tbl := gd (i := 592) (by decide +kernel) rfl
set_option maxRecDepth 100000 in
theorem wd_554 : Jvm.Cond.code ({ cls := "SearchGridsModel", name := "odds", desc := "(II)J" } : Jvm.MethodName) prog_6_method_31_code (4 : Nat) (Option.some Jvm.ClassFile.FieldType.long) ∈ sg_tbl := gd (i := 593) rfl rfl
theorem wd_555 : Jvm.Cond.constantLong "SearchGridsModel" (143 : Nat) (-1 : Int64) ∈ sg_tbl := gd (i := 594) (by decide +kernel) rfl
theorem wd_556 : Jvm.Cond.methodLink "SearchGridsModel" (149 : Nat) ({ cls := "SearchGridsModel", name := "all", desc := "()J" } : Jvm.MethodName) ∈ sg_tbl := gd (i := 595) (by decide +kernel) rfl
theorem wd_558 : Jvm.Cond.instanceMethod ({ cls := "SearchGridsModel", name := "all", desc := "()J" } : Jvm.MethodName) ∈ sg_tbl := gd (i := 597) (by decide +kernel) rfl
set_option maxRecDepth 100000 in
theorem wd_559 : Jvm.Cond.code ({ cls := "SearchGridsModel", name := "all", desc := "()J" } : Jvm.MethodName) prog_6_method_29_code (4 : Nat) (Option.some Jvm.ClassFile.FieldType.long) ∈ sg_tbl := gd (i := 598) rfl rfl
theorem wd_560 : Jvm.Cond.methodLink "SearchGridsModel" (153 : Nat) ({ cls := "SearchGridsModel", name := "part", desc := "(JJI)J" } : Jvm.MethodName) ∈ sg_tbl := gd (i := 599) (by decide +kernel) rfl
theorem wd_561 : Jvm.Cond.static ({ cls := "SearchGridsModel", name := "part", desc := "(JJI)J" } : Jvm.MethodName) ∈ sg_tbl := gd (i := 600) (by decide +kernel) rfl
set_option maxRecDepth 100000 in
theorem wd_562 : Jvm.Cond.code ({ cls := "SearchGridsModel", name := "part", desc := "(JJI)J" } : Jvm.MethodName) prog_6_method_28_code (7 : Nat) (Option.some Jvm.ClassFile.FieldType.long) ∈ sg_tbl := gd (i := 601) rfl rfl
theorem wd_563 : Jvm.Cond.methodLink "SearchGridsModel" (145 : Nat) ({ cls := "SearchGridsModel", name := "common", desc := "(JJ)J" } : Jvm.MethodName) ∈ sg_tbl := gd (i := 602) (by decide +kernel) rfl
theorem wd_564 : Jvm.Cond.static ({ cls := "SearchGridsModel", name := "common", desc := "(JJ)J" } : Jvm.MethodName) ∈ sg_tbl := gd (i := 603) (by decide +kernel) rfl
set_option maxRecDepth 100000 in
theorem wd_565 : Jvm.Cond.code ({ cls := "SearchGridsModel", name := "common", desc := "(JJ)J" } : Jvm.MethodName) prog_6_method_27_code (10 : Nat) (Option.some Jvm.ClassFile.FieldType.long) ∈ sg_tbl := gd (i := 604) rfl rfl
theorem wd_566 : Jvm.Cond.methodLink "SearchGridsLaw" (66 : Nat) ({ cls := "SearchGridsModel", name := "after", desc := "(II)J" } : Jvm.MethodName) ∈ sg_tbl := gd (i := 605) (by decide +kernel) rfl
theorem wd_567 : Jvm.Cond.instanceMethod ({ cls := "SearchGridsModel", name := "after", desc := "(II)J" } : Jvm.MethodName) ∈ sg_tbl := gd (i := 606) (by decide +kernel) rfl
theorem wd_568 : Jvm.Cond.selects "SearchGridsModel" ({ cls := "SearchGridsModel", name := "after", desc := "(II)J" } : Jvm.MethodName) ({ cls := "SearchGridsModel", name := "after", desc := "(II)J" } : Jvm.MethodName) ∈ sg_tbl := gd (i := 607) (by decide +kernel) rfl
set_option maxRecDepth 100000 in
theorem wd_569 : Jvm.Cond.code ({ cls := "SearchGridsModel", name := "after", desc := "(II)J" } : Jvm.MethodName) prog_6_method_32_code (4 : Nat) (Option.some Jvm.ClassFile.FieldType.long) ∈ sg_tbl := gd (i := 608) rfl rfl
theorem wd_570 : Jvm.Cond.methodLink "SearchGridsModel" (157 : Nat) ({ cls := "SearchGridsModel", name := "left", desc := "()J" } : Jvm.MethodName) ∈ sg_tbl := gd (i := 609) (by decide +kernel) rfl
theorem wd_572 : Jvm.Cond.instanceMethod ({ cls := "SearchGridsModel", name := "left", desc := "()J" } : Jvm.MethodName) ∈ sg_tbl := gd (i := 611) (by decide +kernel) rfl
set_option maxRecDepth 100000 in
theorem wd_573 : Jvm.Cond.code ({ cls := "SearchGridsModel", name := "left", desc := "()J" } : Jvm.MethodName) prog_6_method_30_code (4 : Nat) (Option.some Jvm.ClassFile.FieldType.long) ∈ sg_tbl := gd (i := 612) rfl rfl
theorem wd_574 : Jvm.Cond.methodLink "SearchGridsLaw" (70 : Nat) ({ cls := "SearchGridsModel", name := "sums", desc := "()Z" } : Jvm.MethodName) ∈ sg_tbl := gd (i := 613) (by decide +kernel) rfl
theorem wd_575 : Jvm.Cond.instanceMethod ({ cls := "SearchGridsModel", name := "sums", desc := "()Z" } : Jvm.MethodName) ∈ sg_tbl := gd (i := 614) (by decide +kernel) rfl
theorem wd_576 : Jvm.Cond.selects "SearchGridsModel" ({ cls := "SearchGridsModel", name := "sums", desc := "()Z" } : Jvm.MethodName) ({ cls := "SearchGridsModel", name := "sums", desc := "()Z" } : Jvm.MethodName) ∈ sg_tbl := gd (i := 615) (by decide +kernel) rfl
set_option maxRecDepth 100000 in
theorem wd_577 : Jvm.Cond.code ({ cls := "SearchGridsModel", name := "sums", desc := "()Z" } : Jvm.MethodName) prog_6_method_33_code (1 : Nat) (Option.some Jvm.ClassFile.FieldType.boolean) ∈ sg_tbl := gd (i := 616) rfl rfl
theorem wd_578 : Jvm.Cond.methodLink "SearchGridsLaw" (75 : Nat) ({ cls := "SearchGridsModel", name := "found", desc := "(I)J" } : Jvm.MethodName) ∈ sg_tbl := gd (i := 617) (by decide +kernel) rfl
theorem wd_579 : Jvm.Cond.instanceMethod ({ cls := "SearchGridsModel", name := "found", desc := "(I)J" } : Jvm.MethodName) ∈ sg_tbl := gd (i := 618) (by decide +kernel) rfl
theorem wd_580 : Jvm.Cond.selects "SearchGridsModel" ({ cls := "SearchGridsModel", name := "found", desc := "(I)J" } : Jvm.MethodName) ({ cls := "SearchGridsModel", name := "found", desc := "(I)J" } : Jvm.MethodName) ∈ sg_tbl := gd (i := 619) (by decide +kernel) rfl
set_option maxRecDepth 100000 in
theorem wd_581 : Jvm.Cond.code ({ cls := "SearchGridsModel", name := "found", desc := "(I)J" } : Jvm.MethodName) prog_6_method_34_code (5 : Nat) (Option.some Jvm.ClassFile.FieldType.long) ∈ sg_tbl := gd (i := 620) rfl rfl
theorem wd_582 : Jvm.Cond.methodLink "SearchGridsLaw" (62 : Nat) ({ cls := "SearchGridsModel", name := "look", desc := "(IIJJ)I" } : Jvm.MethodName) ∈ sg_tbl := gd (i := 621) (by decide +kernel) rfl
theorem wd_583 : Jvm.Cond.instanceMethod ({ cls := "SearchGridsModel", name := "look", desc := "(IIJJ)I" } : Jvm.MethodName) ∈ sg_tbl := gd (i := 622) (by decide +kernel) rfl
theorem wd_584 : Jvm.Cond.selects "SearchGridsModel" ({ cls := "SearchGridsModel", name := "look", desc := "(IIJJ)I" } : Jvm.MethodName) ({ cls := "SearchGridsModel", name := "look", desc := "(IIJJ)I" } : Jvm.MethodName) ∈ sg_tbl := gd (i := 623) (by decide +kernel) rfl
set_option maxRecDepth 100000 in
theorem wd_585 : Jvm.Cond.code ({ cls := "SearchGridsModel", name := "look", desc := "(IIJJ)I" } : Jvm.MethodName) prog_6_method_35_code (7 : Nat) (Option.some Jvm.ClassFile.FieldType.int) ∈ sg_tbl := gd (i := 624) rfl rfl
theorem wd_586 : Jvm.Cond.methodLink "SearchGridsLaw" (117 : Nat) ({ cls := "SearchGridsModel", name := "seen", desc := "(II)Z" } : Jvm.MethodName) ∈ sg_tbl := gd (i := 625) (by decide +kernel) rfl
theorem wd_587 : Jvm.Cond.instanceMethod ({ cls := "SearchGridsModel", name := "seen", desc := "(II)Z" } : Jvm.MethodName) ∈ sg_tbl := gd (i := 626) (by decide +kernel) rfl
theorem wd_588 : Jvm.Cond.selects "SearchGridsModel" ({ cls := "SearchGridsModel", name := "seen", desc := "(II)Z" } : Jvm.MethodName) ({ cls := "SearchGridsModel", name := "seen", desc := "(II)Z" } : Jvm.MethodName) ∈ sg_tbl := gd (i := 627) (by decide +kernel) rfl
set_option maxRecDepth 100000 in
theorem wd_589 : Jvm.Cond.code ({ cls := "SearchGridsModel", name := "seen", desc := "(II)Z" } : Jvm.MethodName) prog_6_method_36_code (3 : Nat) (Option.some Jvm.ClassFile.FieldType.boolean) ∈ sg_tbl := gd (i := 628) rfl rfl
theorem wd_590 : Jvm.Cond.methodLink "SearchGridsLaw" (109 : Nat) ({ cls := "SearchGridsModel", name := "stops", desc := "()I" } : Jvm.MethodName) ∈ sg_tbl := gd (i := 629) (by decide +kernel) rfl
theorem wd_591 : Jvm.Cond.instanceMethod ({ cls := "SearchGridsModel", name := "stops", desc := "()I" } : Jvm.MethodName) ∈ sg_tbl := gd (i := 630) (by decide +kernel) rfl
theorem wd_592 : Jvm.Cond.selects "SearchGridsModel" ({ cls := "SearchGridsModel", name := "stops", desc := "()I" } : Jvm.MethodName) ({ cls := "SearchGridsModel", name := "stops", desc := "()I" } : Jvm.MethodName) ∈ sg_tbl := gd (i := 631) (by decide +kernel) rfl
set_option maxRecDepth 100000 in
theorem wd_593 : Jvm.Cond.code ({ cls := "SearchGridsModel", name := "stops", desc := "()I" } : Jvm.MethodName) prog_6_method_37_code (1 : Nat) (Option.some Jvm.ClassFile.FieldType.int) ∈ sg_tbl := gd (i := 632) rfl rfl
theorem wd_594 : Jvm.Cond.methodLink "SearchGridsLaw" (113 : Nat) ({ cls := "SearchGridsModel", name := "order", desc := "(I)I" } : Jvm.MethodName) ∈ sg_tbl := gd (i := 633) (by decide +kernel) rfl
theorem wd_595 : Jvm.Cond.instanceMethod ({ cls := "SearchGridsModel", name := "order", desc := "(I)I" } : Jvm.MethodName) ∈ sg_tbl := gd (i := 634) (by decide +kernel) rfl
theorem wd_596 : Jvm.Cond.selects "SearchGridsModel" ({ cls := "SearchGridsModel", name := "order", desc := "(I)I" } : Jvm.MethodName) ({ cls := "SearchGridsModel", name := "order", desc := "(I)I" } : Jvm.MethodName) ∈ sg_tbl := gd (i := 635) (by decide +kernel) rfl
set_option maxRecDepth 100000 in
theorem wd_597 : Jvm.Cond.code ({ cls := "SearchGridsModel", name := "order", desc := "(I)I" } : Jvm.MethodName) prog_6_method_39_code (5 : Nat) (Option.some Jvm.ClassFile.FieldType.int) ∈ sg_tbl := gd (i := 636) rfl rfl
theorem wd_598 : Jvm.Cond.methodLink "SearchGridsModel" (160 : Nat) ({ cls := "SearchGridsModel", name := "rank", desc := "(I)J" } : Jvm.MethodName) ∈ sg_tbl := gd (i := 637) (by decide +kernel) rfl
theorem wd_600 : Jvm.Cond.instanceMethod ({ cls := "SearchGridsModel", name := "rank", desc := "(I)J" } : Jvm.MethodName) ∈ sg_tbl := gd (i := 639) (by decide +kernel) rfl
set_option maxRecDepth 100000 in
theorem wd_601 : Jvm.Cond.code ({ cls := "SearchGridsModel", name := "rank", desc := "(I)J" } : Jvm.MethodName) prog_6_method_38_code (2 : Nat) (Option.some Jvm.ClassFile.FieldType.long) ∈ sg_tbl := gd (i := 640) rfl rfl
theorem wd_602 : Jvm.Cond.methodLink "SearchGridsLaw" (121 : Nat) ({ cls := "SearchGridsModel", name := "log", desc := "(II)I" } : Jvm.MethodName) ∈ sg_tbl := gd (i := 641) (by decide +kernel) rfl
theorem wd_603 : Jvm.Cond.instanceMethod ({ cls := "SearchGridsModel", name := "log", desc := "(II)I" } : Jvm.MethodName) ∈ sg_tbl := gd (i := 642) (by decide +kernel) rfl
theorem wd_604 : Jvm.Cond.selects "SearchGridsModel" ({ cls := "SearchGridsModel", name := "log", desc := "(II)I" } : Jvm.MethodName) ({ cls := "SearchGridsModel", name := "log", desc := "(II)I" } : Jvm.MethodName) ∈ sg_tbl := gd (i := 643) (by decide +kernel) rfl
set_option maxRecDepth 100000 in
theorem wd_605 : Jvm.Cond.code ({ cls := "SearchGridsModel", name := "log", desc := "(II)I" } : Jvm.MethodName) prog_6_method_40_code (6 : Nat) (Option.some Jvm.ClassFile.FieldType.int) ∈ sg_tbl := gd (i := 644) rfl rfl
theorem wd_606 : Jvm.Cond.methodLink "SearchGridsLaw" (80 : Nat) ({ cls := "SearchGridsModel", name := "line", desc := "(III)I" } : Jvm.MethodName) ∈ sg_tbl := gd (i := 645) (by decide +kernel) rfl
theorem wd_607 : Jvm.Cond.instanceMethod ({ cls := "SearchGridsModel", name := "line", desc := "(III)I" } : Jvm.MethodName) ∈ sg_tbl := gd (i := 646) (by decide +kernel) rfl
theorem wd_608 : Jvm.Cond.selects "SearchGridsModel" ({ cls := "SearchGridsModel", name := "line", desc := "(III)I" } : Jvm.MethodName) ({ cls := "SearchGridsModel", name := "line", desc := "(III)I" } : Jvm.MethodName) ∈ sg_tbl := gd (i := 647) (by decide +kernel) rfl
set_option maxRecDepth 100000 in
theorem wd_609 : Jvm.Cond.code ({ cls := "SearchGridsModel", name := "line", desc := "(III)I" } : Jvm.MethodName) prog_6_method_41_code (7 : Nat) (Option.some Jvm.ClassFile.FieldType.int) ∈ sg_tbl := gd (i := 648) rfl rfl
theorem wd_610 : Jvm.Cond.methodLink "SearchGridsLaw" (85 : Nat) ({ cls := "SearchGridsModel", name := "covers", desc := "(I)Z" } : Jvm.MethodName) ∈ sg_tbl := gd (i := 649) (by decide +kernel) rfl
theorem wd_611 : Jvm.Cond.instanceMethod ({ cls := "SearchGridsModel", name := "covers", desc := "(I)Z" } : Jvm.MethodName) ∈ sg_tbl := gd (i := 650) (by decide +kernel) rfl
theorem wd_612 : Jvm.Cond.selects "SearchGridsModel" ({ cls := "SearchGridsModel", name := "covers", desc := "(I)Z" } : Jvm.MethodName) ({ cls := "SearchGridsModel", name := "covers", desc := "(I)Z" } : Jvm.MethodName) ∈ sg_tbl := gd (i := 651) (by decide +kernel) rfl
set_option maxRecDepth 100000 in
theorem wd_613 : Jvm.Cond.code ({ cls := "SearchGridsModel", name := "covers", desc := "(I)Z" } : Jvm.MethodName) prog_6_method_42_code (2 : Nat) (Option.some Jvm.ClassFile.FieldType.boolean) ∈ sg_tbl := gd (i := 652) rfl rfl
theorem wd_614 : Jvm.Cond.constantLong "SearchGridsLaw" (21 : Nat) (4294967295 : Int64) ∈ sg_tbl := gd (i := 653) (by decide +kernel) rfl
theorem sl_0 : Cond.selects "SearchGrids" ⟨"SearchGrids", "isCell", "(I)Z"⟩ ⟨"SearchGrids", "isCell", "(I)Z"⟩ ∈ sg_tbl := gd (i := 0) (by decide +kernel) rfl
theorem sl_1 : Cond.selects "SearchGrids" ⟨"SearchGrids", "tellOf", "(I)I"⟩ ⟨"SearchGrids", "tellOf", "(I)I"⟩ ∈ sg_tbl := gd (i := 1) (by decide +kernel) rfl
theorem sl_2 : Cond.selects "SearchGrids" ⟨"SearchGrids", "placeOf", "(I)I"⟩ ⟨"SearchGrids", "placeOf", "(I)I"⟩ ∈ sg_tbl := gd (i := 2) (by decide +kernel) rfl
theorem sl_3 : Cond.selects "SearchGrids" ⟨"SearchGrids", "dropPlan", "()V"⟩ ⟨"SearchGrids", "dropPlan", "()V"⟩ ∈ sg_tbl := gd (i := 3) (by decide +kernel) rfl
theorem sl_4 : Cond.selects "SearchGrids" ⟨"SearchGrids", "allCounts", "()J"⟩ ⟨"SearchGrids", "allCounts", "()J"⟩ ∈ sg_tbl := gd (i := 4) (by decide +kernel) rfl
theorem sl_5 : Cond.selects "SearchGrids$Looker" ⟨"SearchGrids$Looker", "begin", "(I)V"⟩ ⟨"SearchGrids$Looker", "begin", "(I)V"⟩ ∈ sg_tbl := gd (i := 5) (by decide +kernel) rfl
theorem sl_6 : Cond.selects "SearchGrids" ⟨"SearchGrids", "isLooker", "(I)Z"⟩ ⟨"SearchGrids", "isLooker", "(I)Z"⟩ ∈ sg_tbl := gd (i := 6) (by decide +kernel) rfl
theorem sl_7 : Cond.selects "SearchGrids$Looker" ⟨"SearchGrids$Looker", "takeAway", "(II)V"⟩ ⟨"SearchGrids$Looker", "takeAway", "(II)V"⟩ ∈ sg_tbl := gd (i := 7) (by decide +kernel) rfl
theorem sl_8 : Cond.selects "SearchGrids$Cell" ⟨"SearchGrids$Cell", "reckonGains", "()V"⟩ ⟨"SearchGrids$Cell", "reckonGains", "()V"⟩ ∈ sg_tbl := gd (i := 8) (by decide +kernel) rfl
theorem sl_9 : Cond.selects "SearchGrids$Cell" ⟨"SearchGrids$Cell", "finds", "([I)J"⟩ ⟨"SearchGrids$Cell", "finds", "([I)J"⟩ ∈ sg_tbl := gd (i := 9) (by decide +kernel) rfl
theorem sl_10 : Cond.selects "SearchGrids$Cell" ⟨"SearchGrids$Cell", "weight", "()J"⟩ ⟨"SearchGrids$Cell", "weight", "()J"⟩ ∈ sg_tbl := gd (i := 10) (by decide +kernel) rfl
theorem sl_11 : Cond.selects "SearchGrids$Cell" ⟨"SearchGrids$Cell", "missed", "([I)J"⟩ ⟨"SearchGrids$Cell", "missed", "([I)J"⟩ ∈ sg_tbl := gd (i := 11) (by decide +kernel) rfl
theorem sl_12 : Cond.selects "SearchGrids$Cell" ⟨"SearchGrids$Cell", "missedBy", "(II)J"⟩ ⟨"SearchGrids$Cell", "missedBy", "(II)J"⟩ ∈ sg_tbl := gd (i := 12) (by decide +kernel) rfl
theorem sl_13 : Cond.selects "SearchGrids" ⟨"SearchGrids", "giveBestHour", "()Z"⟩ ⟨"SearchGrids", "giveBestHour", "()Z"⟩ ∈ sg_tbl := gd (i := 13) (by decide +kernel) rfl
theorem sl_14 : Cond.selects "SearchGrids" ⟨"SearchGrids", "plannedHours", "()I"⟩ ⟨"SearchGrids", "plannedHours", "()I"⟩ ∈ sg_tbl := gd (i := 14) (by decide +kernel) rfl
theorem sl_15 : Cond.selects "SearchGrids" ⟨"SearchGrids", "plannedFinds", "()J"⟩ ⟨"SearchGrids", "plannedFinds", "()J"⟩ ∈ sg_tbl := gd (i := 15) (by decide +kernel) rfl
theorem sl_16 : Cond.selects "SearchGrids" ⟨"SearchGrids", "isOutdone", "(IIIJJ)Z"⟩ ⟨"SearchGrids", "isOutdone", "(IIIJJ)Z"⟩ ∈ sg_tbl := gd (i := 16) (by decide +kernel) rfl
theorem sl_17 : Cond.selects "SearchGrids$LookLog" ⟨"SearchGrids$LookLog", "add", "(IIIJ)I"⟩ ⟨"SearchGrids$LookLog", "add", "(IIIJ)I"⟩ ∈ sg_tbl := gd (i := 17) (by decide +kernel) rfl
theorem sl_18 : Cond.selects "SearchGrids$Cell" ⟨"SearchGrids$Cell", "remains", "()J"⟩ ⟨"SearchGrids$Cell", "remains", "()J"⟩ ∈ sg_tbl := gd (i := 18) (by decide +kernel) rfl
theorem sl_19 : Cond.selects "SearchGrids" ⟨"SearchGrids", "allRemains", "()J"⟩ ⟨"SearchGrids", "allRemains", "()J"⟩ ∈ sg_tbl := gd (i := 19) (by decide +kernel) rfl
theorem sl_20 : Cond.selects "SearchGrids" ⟨"SearchGrids", "standingOf", "(LSearchGrids$Cell;)J"⟩ ⟨"SearchGrids", "standingOf", "(LSearchGrids$Cell;)J"⟩ ∈ sg_tbl := gd (i := 20) (by decide +kernel) rfl
theorem sl_21 : Cond.selects "SearchGrids" ⟨"SearchGrids", "countBefore", "(I)I"⟩ ⟨"SearchGrids", "countBefore", "(I)I"⟩ ∈ sg_tbl := gd (i := 21) (by decide +kernel) rfl
theorem sl_22 : Cond.selects "SearchGridsModel" ⟨"SearchGridsModel", "isCell", "(I)Z"⟩ ⟨"SearchGridsModel", "isCell", "(I)Z"⟩ ∈ sg_tbl := gd (i := 22) (by decide +kernel) rfl
theorem sl_23 : Cond.selects "SearchGridsModel" ⟨"SearchGridsModel", "place", "(I)I"⟩ ⟨"SearchGridsModel", "place", "(I)I"⟩ ∈ sg_tbl := gd (i := 23) (by decide +kernel) rfl
theorem sl_24 : Cond.selects "SearchGridsModel" ⟨"SearchGridsModel", "tell", "(I)I"⟩ ⟨"SearchGridsModel", "tell", "(I)I"⟩ ∈ sg_tbl := gd (i := 24) (by decide +kernel) rfl
theorem sl_25 : Cond.selects "SearchGridsModel" ⟨"SearchGridsModel", "move", "(II)V"⟩ ⟨"SearchGridsModel", "move", "(II)V"⟩ ∈ sg_tbl := gd (i := 25) (by decide +kernel) rfl
theorem sl_26 : Cond.selects "SearchGridsModel" ⟨"SearchGridsModel", "changed", "()V"⟩ ⟨"SearchGridsModel", "changed", "()V"⟩ ∈ sg_tbl := gd (i := 26) (by decide +kernel) rfl
theorem sl_27 : Cond.selects "SearchGridsModel" ⟨"SearchGridsModel", "isLooker", "(I)Z"⟩ ⟨"SearchGridsModel", "isLooker", "(I)Z"⟩ ∈ sg_tbl := gd (i := 27) (by decide +kernel) rfl
theorem sl_28 : Cond.selects "SearchGridsModel" ⟨"SearchGridsModel", "worth", "([I)J"⟩ ⟨"SearchGridsModel", "worth", "([I)J"⟩ ∈ sg_tbl := gd (i := 28) (by decide +kernel) rfl
theorem sl_29 : Cond.selects "SearchGridsModel" ⟨"SearchGridsModel", "weight", "(I)I"⟩ ⟨"SearchGridsModel", "weight", "(I)I"⟩ ∈ sg_tbl := gd (i := 29) (by decide +kernel) rfl
theorem sl_30 : Cond.selects "SearchGridsModel" ⟨"SearchGridsModel", "missed", "([II)J"⟩ ⟨"SearchGridsModel", "missed", "([II)J"⟩ ∈ sg_tbl := gd (i := 30) (by decide +kernel) rfl
theorem sl_31 : Cond.selects "SearchGridsModel" ⟨"SearchGridsModel", "given", "([II)I"⟩ ⟨"SearchGridsModel", "given", "([II)I"⟩ ∈ sg_tbl := gd (i := 31) (by decide +kernel) rfl
theorem sl_32 : Cond.selects "SearchGridsModel" ⟨"SearchGridsModel", "use", "(I)I"⟩ ⟨"SearchGridsModel", "use", "(I)I"⟩ ∈ sg_tbl := gd (i := 32) (by decide +kernel) rfl
theorem sl_33 : Cond.selects "SearchGridsModel" ⟨"SearchGridsModel", "size", "()I"⟩ ⟨"SearchGridsModel", "size", "()I"⟩ ∈ sg_tbl := gd (i := 33) (by decide +kernel) rfl
theorem sl_34 : Cond.selects "SearchGridsModel" ⟨"SearchGridsModel", "isBetter", "(IIJ)Z"⟩ ⟨"SearchGridsModel", "isBetter", "(IIJ)Z"⟩ ∈ sg_tbl := gd (i := 34) (by decide +kernel) rfl
theorem sl_35 : Cond.selects "SearchGridsModel" ⟨"SearchGridsModel", "slot", "(I)I"⟩ ⟨"SearchGridsModel", "slot", "(I)I"⟩ ∈ sg_tbl := gd (i := 35) (by decide +kernel) rfl
theorem sl_36 : Cond.selects "SearchGridsModel" ⟨"SearchGridsModel", "all", "()J"⟩ ⟨"SearchGridsModel", "all", "()J"⟩ ∈ sg_tbl := gd (i := 36) (by decide +kernel) rfl
theorem sl_37 : Cond.selects "SearchGridsModel" ⟨"SearchGridsModel", "left", "()J"⟩ ⟨"SearchGridsModel", "left", "()J"⟩ ∈ sg_tbl := gd (i := 37) (by decide +kernel) rfl
theorem sl_38 : Cond.selects "SearchGridsModel" ⟨"SearchGridsModel", "rank", "(I)J"⟩ ⟨"SearchGridsModel", "rank", "(I)J"⟩ ∈ sg_tbl := gd (i := 38) (by decide +kernel) rfl
def sg_host : String := "SearchGrids"
def sg_fn : List (String × Nat × String × String × String) := [("SearchGrids", 72, "SearchGrids$Cell", "countOf", "[I"), ("SearchGrids", 121, "SearchGrids$Cell", "planned", "[I"), ("SearchGrids", 135, "SearchGrids$Cell", "looked", "[I"), ("SearchGrids", 218, "SearchGrids$Cell", "trial", "[I"), ("SearchGrids", 210, "SearchGrids$Cell", "gains", "[J"), ("SearchGrids", 186, "SearchGrids$Cell", "number", "I"), ("SearchGrids", 153, "SearchGrids$Cell", "squares", "I"), ("SearchGrids", 201, "SearchGrids$Cell", "scale", "I"), ("SearchGrids", 180, "SearchGrids$Cell", "standing", "J"), ("SearchGrids", 207, "SearchGrids$Looker", "use", "I"), ("SearchGrids", 204, "SearchGrids$Looker", "given", "I"), ("SearchGrids", 221, "SearchGrids$Looker", "trial", "I"), ("SearchGrids", 192, "SearchGrids$LookLog", "lookers", "[I"), ("SearchGrids", 194, "SearchGrids$LookLog", "cells", "[I"), ("SearchGrids", 196, "SearchGrids$LookLog", "hours", "[I"), ("SearchGrids", 189, "SearchGrids$LookLog", "byTold", "[I"), ("SearchGrids", 82, "SearchGrids$LookLog", "size", "I")]
def sg_mn : List (String × Nat × MethodName) := [("SearchGrids", 24, ⟨"SearchGrids$Cell", "<init>", "([I)V"⟩), ("SearchGrids", 33, ⟨"SearchGrids$Looker", "<init>", "()V"⟩), ("SearchGrids", 39, ⟨"SearchGrids$LookLog", "<init>", "()V"⟩), ("SearchGrids", 93, ⟨"SearchGrids$Looker", "begin", "(I)V"⟩), ("SearchGrids", 105, ⟨"SearchGrids$Looker", "takeAway", "(II)V"⟩), ("SearchGrids", 114, ⟨"SearchGrids$Cell", "reckonGains", "()V"⟩), ("SearchGrids", 214, ⟨"SearchGrids$Cell", "finds", "([I)J"⟩), ("SearchGrids", 138, ⟨"SearchGrids$LookLog", "add", "(IIIJ)I"⟩), ("SearchGrids", 142, ⟨"SearchGrids$Cell", "remains", "()J"⟩), ("SearchGrids", 148, ⟨"SearchGrids$Cell", "weight", "()J"⟩)]
def sg_nest : List Cond := sg_fn.map (fun q => Cond.fieldLinkNest q.1 q.2.1 q.2.2.1 q.2.2.2.1 q.2.2.2.2 sg_host) ++ sg_mn.map (fun q => Cond.methodLinkNest q.1 q.2.1 q.2.2 sg_host)
theorem sg_nest_warm {s U : State} (hW : s.WarmedH U.vm) : ∀ w ∈ sg_nest, va_Nw w s → va_Nw w U := by
  intro w hw h
  rcases List.mem_append.mp hw with hw | hw
  · obtain ⟨q, -, rfl⟩ := List.mem_map.mp hw
    exact va_Nw.warmF hW h
  · obtain ⟨q, -, rfl⟩ := List.mem_map.mp hw
    exact va_Nw.warmM hW h
theorem sg_nest_tab : ∀ w ∈ sg_nest, w.onTables = true := by
  intro w hw
  rcases List.mem_append.mp hw with hw | hw
  · obtain ⟨q, -, rfl⟩ := List.mem_map.mp hw
    rfl
  · obtain ⟨q, -, rfl⟩ := List.mem_map.mp hw
    rfl
theorem nsF {i : Nat} {a : String} {n : Nat} {b c d : String} (h : sg_fn[i]? = some (a, n, b, c, d)) : Cond.fieldLinkNest a n b c d sg_host ∈ sg_nest := List.mem_append_left _ (List.mem_map.mpr ⟨(a, n, b, c, d), List.mem_of_getElem? h, rfl⟩)
theorem nsM {i : Nat} {a : String} {n : Nat} {y : MethodName} (h : sg_mn[i]? = some (a, n, y)) : Cond.methodLinkNest a n y sg_host ∈ sg_nest := List.mem_append_right _ (List.mem_map.mpr ⟨(a, n, y), List.mem_of_getElem? h, rfl⟩)
theorem sg_nest_in : ∀ w ∈ sg_nest, w ∈ lw_tbl := by
  intro w hw
  rcases List.mem_append.mp hw with hw | hw
  · obtain ⟨q, hq, rfl⟩ := List.mem_map.mp hw
    obtain ⟨i, hi⟩ := List.getElem?_of_mem hq
    match i, hi with
    | 0, hi => cases hi; exact List.mem_of_getElem? (i := 64) (by decide +kernel)
    | 1, hi => cases hi; exact List.mem_of_getElem? (i := 66) (by decide +kernel)
    | 2, hi => cases hi; exact List.mem_of_getElem? (i := 68) (by decide +kernel)
    | 3, hi => cases hi; exact List.mem_of_getElem? (i := 70) (by decide +kernel)
    | 4, hi => cases hi; exact List.mem_of_getElem? (i := 72) (by decide +kernel)
    | 5, hi => cases hi; exact List.mem_of_getElem? (i := 74) (by decide +kernel)
    | 6, hi => cases hi; exact List.mem_of_getElem? (i := 76) (by decide +kernel)
    | 7, hi => cases hi; exact List.mem_of_getElem? (i := 78) (by decide +kernel)
    | 8, hi => cases hi; exact List.mem_of_getElem? (i := 79) (by decide +kernel)
    | 9, hi => cases hi; exact List.mem_of_getElem? (i := 113) (by decide +kernel)
    | 10, hi => cases hi; exact List.mem_of_getElem? (i := 114) (by decide +kernel)
    | 11, hi => cases hi; exact List.mem_of_getElem? (i := 115) (by decide +kernel)
    | 12, hi => cases hi; exact List.mem_of_getElem? (i := 135) (by decide +kernel)
    | 13, hi => cases hi; exact List.mem_of_getElem? (i := 137) (by decide +kernel)
    | 14, hi => cases hi; exact List.mem_of_getElem? (i := 139) (by decide +kernel)
    | 15, hi => cases hi; exact List.mem_of_getElem? (i := 142) (by decide +kernel)
    | 16, hi => cases hi; exact List.mem_of_getElem? (i := 144) (by decide +kernel)
    | i + 17, hi => simp [sg_fn] at hi
  · obtain ⟨q, hq, rfl⟩ := List.mem_map.mp hw
    obtain ⟨i, hi⟩ := List.getElem?_of_mem hq
    match i, hi with
    | 0, hi => cases hi; exact List.mem_of_getElem? (i := 58) (by decide +kernel)
    | 1, hi => cases hi; exact List.mem_of_getElem? (i := 106) (by decide +kernel)
    | 2, hi => cases hi; exact List.mem_of_getElem? (i := 130) (by decide +kernel)
    | 3, hi => cases hi; exact List.mem_of_getElem? (i := 246) (by decide +kernel)
    | 4, hi => cases hi; exact List.mem_of_getElem? (i := 259) (by decide +kernel)
    | 5, hi => cases hi; exact List.mem_of_getElem? (i := 271) (by decide +kernel)
    | 6, hi => cases hi; exact List.mem_of_getElem? (i := 315) (by decide +kernel)
    | 7, hi => cases hi; exact List.mem_of_getElem? (i := 325) (by decide +kernel)
    | 8, hi => cases hi; exact List.mem_of_getElem? (i := 333) (by decide +kernel)
    | 9, hi => cases hi; exact List.mem_of_getElem? (i := 349) (by decide +kernel)
    | i + 10, hi => simp [sg_mn] at hi
def sg_F0 : u_T := fun k => match k with
  | 0 => ("SearchGrids$Cell", "rates", "[I", true)
  | 1 => ("SearchGrids$Cell", "countOf", "[I", true)
  | 2 => ("SearchGrids$Cell", "planned", "[I", true)
  | 3 => ("SearchGrids$Cell", "looked", "[I", true)
  | 4 => ("SearchGrids$Cell", "trial", "[I", true)
  | 5 => ("SearchGrids$Cell", "gains", "[J", true)
  | 6 => ("SearchGrids$Cell", "number", "I", false)
  | 7 => ("SearchGrids$Cell", "squares", "I", false)
  | 8 => ("SearchGrids$Cell", "scale", "I", false)
  | _ => ("SearchGrids$Cell", "standing", "J", false)
def sg_t0 : Nat → FieldType := fun k => match k with
  | 0 => .array .int
  | 1 => .array .int
  | 2 => .array .int
  | 3 => .array .int
  | 4 => .array .int
  | 5 => .array .long
  | 6 => .int
  | 7 => .int
  | 8 => .int
  | _ => .long
theorem sg_nm0 : ∀ a, a < 10 → ∀ b, b < 10 → a ≠ b → (sg_F0 a).2.1 ≠ (sg_F0 b).2.1 := by decide +kernel
theorem sg_ty0 : ∀ k, k < 10 → parseFieldDescriptor (sg_F0 k).2.2.1 = some (sg_t0 k) := by decide +kernel
theorem sg_in0 : ∀ w ∈ u_ws "SearchGrids$Cell" sg_F0 10, w ∈ sg_tbl := by
  intro w hw
  obtain ⟨k, hk, rfl⟩ := List.mem_map.mp hw
  have hk := List.mem_range.mp hk
  match k, hk with
  | 0, _ => exact wd_41
  | 1, _ => exact wd_43
  | 2, _ => exact wd_45
  | 3, _ => exact wd_47
  | 4, _ => exact wd_49
  | 5, _ => exact wd_51
  | 6, _ => exact wd_53
  | 7, _ => exact wd_55
  | 8, _ => exact wd_57
  | 9, _ => exact wd_59
def sg_F1 : u_T := fun k => match k with
  | 0 => ("SearchGrids$LookLog", "lookers", "[I", true)
  | 1 => ("SearchGrids$LookLog", "cells", "[I", true)
  | 2 => ("SearchGrids$LookLog", "hours", "[I", true)
  | 3 => ("SearchGrids$LookLog", "tolds", "[J", true)
  | 4 => ("SearchGrids$LookLog", "byTold", "[I", true)
  | _ => ("SearchGrids$LookLog", "size", "I", false)
def sg_t1 : Nat → FieldType := fun k => match k with
  | 0 => .array .int
  | 1 => .array .int
  | 2 => .array .int
  | 3 => .array .long
  | 4 => .array .int
  | _ => .int
theorem sg_nm1 : ∀ a, a < 6 → ∀ b, b < 6 → a ≠ b → (sg_F1 a).2.1 ≠ (sg_F1 b).2.1 := by decide +kernel
theorem sg_ty1 : ∀ k, k < 6 → parseFieldDescriptor (sg_F1 k).2.2.1 = some (sg_t1 k) := by decide +kernel
theorem sg_in1 : ∀ w ∈ u_ws "SearchGrids$LookLog" sg_F1 6, w ∈ sg_tbl := by
  intro w hw
  obtain ⟨k, hk, rfl⟩ := List.mem_map.mp hw
  have hk := List.mem_range.mp hk
  match k, hk with
  | 0, _ => exact wd_106
  | 1, _ => exact wd_108
  | 2, _ => exact wd_110
  | 3, _ => exact wd_112
  | 4, _ => exact wd_114
  | 5, _ => exact wd_116
def sg_F2 : u_T := fun k => match k with
  | 0 => ("SearchGrids$Looker", "useless", "[Z", true)
  | 1 => ("SearchGrids$Looker", "hours", "I", false)
  | 2 => ("SearchGrids$Looker", "use", "I", false)
  | 3 => ("SearchGrids$Looker", "given", "I", false)
  | _ => ("SearchGrids$Looker", "trial", "I", false)
def sg_t2 : Nat → FieldType := fun k => match k with
  | 0 => .array .boolean
  | 1 => .int
  | 2 => .int
  | 3 => .int
  | _ => .int
theorem sg_nm2 : ∀ a, a < 5 → ∀ b, b < 5 → a ≠ b → (sg_F2 a).2.1 ≠ (sg_F2 b).2.1 := by decide +kernel
theorem sg_ty2 : ∀ k, k < 5 → parseFieldDescriptor (sg_F2 k).2.2.1 = some (sg_t2 k) := by decide +kernel
theorem sg_in2 : ∀ w ∈ u_ws "SearchGrids$Looker" sg_F2 5, w ∈ sg_tbl := by
  intro w hw
  obtain ⟨k, hk, rfl⟩ := List.mem_map.mp hw
  have hk := List.mem_range.mp hk
  match k, hk with
  | 0, _ => exact wd_77
  | 1, _ => exact wd_79
  | 2, _ => exact wd_81
  | 3, _ => exact wd_83
  | 4, _ => exact wd_85
def sg_F3 : u_T := fun k => match k with
  | 0 => ("SearchGrids", "cells", "I", true)
  | 1 => ("SearchGrids", "toldCells", "[LSearchGrids$Cell;", true)
  | 2 => ("SearchGrids", "toldCount", "I", false)
  | 3 => ("SearchGrids", "lookers", "[LSearchGrids$Looker;", true)
  | 4 => ("SearchGrids", "lookerCount", "I", false)
  | 5 => ("SearchGrids", "rates", "[I", true)
  | 6 => ("SearchGrids", "thingCount", "I", false)
  | 7 => ("SearchGrids", "looks", "LSearchGrids$LookLog;", true)
  | 8 => ("SearchGrids", "seenCell", "I", false)
  | 9 => ("SearchGrids", "stopAbove", "J", false)
  | 10 => ("SearchGrids", "stopBelow", "J", false)
  | _ => ("SearchGrids", "gone", "[Z", true)
def sg_t3 : Nat → FieldType := fun k => match k with
  | 0 => .int
  | 1 => .array (.object "SearchGrids$Cell")
  | 2 => .int
  | 3 => .array (.object "SearchGrids$Looker")
  | 4 => .int
  | 5 => .array .int
  | 6 => .int
  | 7 => .object "SearchGrids$LookLog"
  | 8 => .int
  | 9 => .long
  | 10 => .long
  | _ => .array .boolean
theorem sg_nm3 : ∀ a, a < 12 → ∀ b, b < 12 → a ≠ b → (sg_F3 a).2.1 ≠ (sg_F3 b).2.1 := by decide +kernel
theorem sg_ty3 : ∀ k, k < 12 → parseFieldDescriptor (sg_F3 k).2.2.1 = some (sg_t3 k) := by decide +kernel
theorem sg_in3 : ∀ w ∈ u_ws "SearchGrids" sg_F3 12, w ∈ sg_tbl := by
  intro w hw
  obtain ⟨k, hk, rfl⟩ := List.mem_map.mp hw
  have hk := List.mem_range.mp hk
  match k, hk with
  | 0, _ => exact wd_131
  | 1, _ => exact wd_133
  | 2, _ => exact wd_135
  | 3, _ => exact wd_137
  | 4, _ => exact wd_139
  | 5, _ => exact wd_141
  | 6, _ => exact wd_143
  | 7, _ => exact wd_145
  | 8, _ => exact wd_147
  | 9, _ => exact wd_149
  | 10, _ => exact wd_151
  | 11, _ => exact wd_153
def sg_F4 : u_T := fun k => match k with
  | 0 => ("SearchGridsModel", "cells", "I", true)
  | 1 => ("SearchGridsModel", "told", "I", false)
  | 2 => ("SearchGridsModel", "cell", "[I", true)
  | 3 => ("SearchGridsModel", "areas", "[I", true)
  | 4 => ("SearchGridsModel", "count", "[I", true)
  | 5 => ("SearchGridsModel", "things", "I", false)
  | 6 => ("SearchGridsModel", "lookers", "I", false)
  | 7 => ("SearchGridsModel", "rate", "[I", true)
  | 8 => ("SearchGridsModel", "hours", "[I", true)
  | 9 => ("SearchGridsModel", "barred", "[Z", true)
  | 10 => ("SearchGridsModel", "plan", "[I", true)
  | 11 => ("SearchGridsModel", "trial", "[I", true)
  | 12 => ("SearchGridsModel", "looked", "[I", true)
  | 13 => ("SearchGridsModel", "looks", "I", false)
  | 14 => ("SearchGridsModel", "lookLooker", "[I", true)
  | 15 => ("SearchGridsModel", "lookCell", "[I", true)
  | 16 => ("SearchGridsModel", "lookHours", "[I", true)
  | 17 => ("SearchGridsModel", "lookTold", "[J", true)
  | 18 => ("SearchGridsModel", "seenAt", "I", false)
  | 19 => ("SearchGridsModel", "above", "J", false)
  | _ => ("SearchGridsModel", "below", "J", false)
def sg_t4 : Nat → FieldType := fun k => match k with
  | 0 => .int
  | 1 => .int
  | 2 => .array .int
  | 3 => .array .int
  | 4 => .array .int
  | 5 => .int
  | 6 => .int
  | 7 => .array .int
  | 8 => .array .int
  | 9 => .array .boolean
  | 10 => .array .int
  | 11 => .array .int
  | 12 => .array .int
  | 13 => .int
  | 14 => .array .int
  | 15 => .array .int
  | 16 => .array .int
  | 17 => .array .long
  | 18 => .int
  | 19 => .long
  | _ => .long
theorem sg_nm4 : ∀ a, a < 21 → ∀ b, b < 21 → a ≠ b → (sg_F4 a).2.1 ≠ (sg_F4 b).2.1 := by decide +kernel
theorem sg_ty4 : ∀ k, k < 21 → parseFieldDescriptor (sg_F4 k).2.2.1 = some (sg_t4 k) := by decide +kernel
theorem sg_in4 : ∀ w ∈ u_ws "SearchGridsModel" sg_F4 21, w ∈ sg_tbl := by
  intro w hw
  obtain ⟨k, hk, rfl⟩ := List.mem_map.mp hw
  have hk := List.mem_range.mp hk
  match k, hk with
  | 0, _ => exact wd_402
  | 1, _ => exact wd_404
  | 2, _ => exact wd_406
  | 3, _ => exact wd_408
  | 4, _ => exact wd_410
  | 5, _ => exact wd_412
  | 6, _ => exact wd_414
  | 7, _ => exact wd_416
  | 8, _ => exact wd_418
  | 9, _ => exact wd_420
  | 10, _ => exact wd_422
  | 11, _ => exact wd_424
  | 12, _ => exact wd_426
  | 13, _ => exact wd_428
  | 14, _ => exact wd_430
  | 15, _ => exact wd_432
  | 16, _ => exact wd_434
  | 17, _ => exact wd_436
  | 18, _ => exact wd_438
  | 19, _ => exact wd_440
  | 20, _ => exact wd_442
  | k + 21, h => exact absurd h (by omega)
def sg_cl : List vw_C := [("SearchGrids$Cell", sg_F0, 10), ("SearchGrids$LookLog", sg_F1, 6), ("SearchGrids$Looker", sg_F2, 5), ("SearchGrids", sg_F3, 12), ("SearchGridsModel", sg_F4, 21)]
def sg_ft (c k : Nat) : FieldType := match c with
  | 0 => sg_t0 k
  | 1 => sg_t1 k
  | 2 => sg_t2 k
  | 3 => sg_t3 k
  | _ => sg_t4 k
theorem sg_cl_ok : ∀ (c : Nat) (r : vw_C), sg_cl[c]? = some r → (∀ w ∈ u_ws r.1 r.2.1 r.2.2, w ∈ sg_tbl) ∧ (∀ k, k < r.2.2 → parseFieldDescriptor (r.2.1 k).2.2.1 = some (sg_ft c k)) ∧ (∀ a, a < r.2.2 → ∀ b, b < r.2.2 → a ≠ b → (r.2.1 a).2.1 ≠ (r.2.1 b).2.1) := by
  intro c r h
  match c, h with
  | 0, h => cases h; exact ⟨sg_in0, sg_ty0, sg_nm0⟩
  | 1, h => cases h; exact ⟨sg_in1, sg_ty1, sg_nm1⟩
  | 2, h => cases h; exact ⟨sg_in2, sg_ty2, sg_nm2⟩
  | 3, h => cases h; exact ⟨sg_in3, sg_ty3, sg_nm3⟩
  | 4, h => cases h; exact ⟨sg_in4, sg_ty4, sg_nm4⟩
  | c + 5, h => simp [sg_cl] at h
def sg_na : Nat := 5
def sg_at (t : Nat) : FieldType := match t with
  | 0 => .int
  | 1 => .long
  | 2 => .boolean
  | 3 => .object "SearchGrids$Cell"
  | _ => .object "SearchGrids$Looker"
def sg_refs : List String := ["SearchGrids$Cell", "SearchGrids$Looker"]
end
section
/-! THE ABSTRACT HEAP. hp_n: its size; hp_k: a cell's kind (.inl c an object of class number c, .inr t an array of the type number t); hp_l: an array's length; hp_i, hp_j, hp_r: ints, longs, references by cell and place. An address is itself. -/
abbrev Gx : Type := Launch × (Nat → ClassId) × (Nat → Nat → Nat) × (Nat → ClassId) × Heap
abbrev Hp : Type := Nat × (Nat → Nat ⊕ Nat) × (Nat → Nat) × (Nat → Nat → Int32) × (Nat → Nat → Int64) × (Nat → Nat → Option Nat)
def gx_l (g : Gx) : Launch := g.1
def gx_D (g : Gx) : va_G := (g.2.1, g.2.2.1)
def gx_A (g : Gx) : Nat → ClassId := g.2.2.2.1
def gx_H (g : Gx) : Heap := g.2.2.2.2
def gx_B (g : Gx) : Nat := g.2.2.2.2.size
def hp_n (h : Hp) : Nat := h.1
def hp_k (h : Hp) : Nat → Nat ⊕ Nat := h.2.1
def hp_l (h : Hp) : Nat → Nat := h.2.2.1
def hp_i (h : Hp) : Nat → Nat → Int32 := h.2.2.2.1
def hp_j (h : Hp) : Nat → Nat → Int64 := h.2.2.2.2.1
def hp_r (h : Hp) : Nat → Nat → Option Nat := h.2.2.2.2.2
def up2 {α : Type} (f : Nat → Nat → α) (a k : Nat) (x : α) : Nat → Nat → α := fun b j => if b = a ∧ j = k then x else f b j
theorem up2_s {α : Type} (f : Nat → Nat → α) (a k : Nat) (x : α) : up2 f a k x a k = x := by simp [up2]
theorem up2_a {α : Type} {f : Nat → Nat → α} {a k b j : Nat} {x : α} (h : b ≠ a) : up2 f a k x b j = f b j := by simp [up2, h]
theorem up2_k {α : Type} {f : Nat → Nat → α} {a k b j : Nat} {x : α} (h : j ≠ k) : up2 f a k x b j = f b j := by simp [up2, h]
def hp_ui (h : Hp) (a k : Nat) (x : Int32) : Hp := (h.1, h.2.1, h.2.2.1, up2 h.2.2.2.1 a k x, h.2.2.2.2.1, h.2.2.2.2.2)
def hp_uj (h : Hp) (a k : Nat) (x : Int64) : Hp := (h.1, h.2.1, h.2.2.1, h.2.2.2.1, up2 h.2.2.2.2.1 a k x, h.2.2.2.2.2)
def hp_ur (h : Hp) (a k : Nat) (x : Option Nat) : Hp := (h.1, h.2.1, h.2.2.1, h.2.2.2.1, h.2.2.2.2.1, up2 h.2.2.2.2.2 a k x)
def hp_new (h : Hp) (kd : Nat ⊕ Nat) (len : Nat) : Hp := (h.1 + 1, va_up h.2.1 h.1 kd, va_up h.2.2.1 h.1 len, fun b j => if b = h.1 then 0 else h.2.2.2.1 b j, fun b j => if b = h.1 then 0 else h.2.2.2.2.1 b j, fun b j => if b = h.1 then none else h.2.2.2.2.2 b j)
/-- what a place of that type holds -/
def hp_fv (h : Hp) (ty : FieldType) (a k : Nat) : Value := match ty with
  | .long => .long (hp_j h a k)
  | .object _ => va_rf (hp_r h a k)
  | .array _ => va_rf (hp_r h a k)
  | _ => .int (hp_i h a k)
def ty_I (ty : FieldType) : Bool := match ty with
  | .int => true
  | .boolean => true
  | .byte => true
  | .short => true
  | .char => true
  | _ => false
def ty_R (ty : FieldType) : Bool := match ty with
  | .object _ => true
  | .array _ => true
  | _ => false
def ty_D (ty : FieldType) : Bool := match ty with
  | .float => true
  | .double => true
  | _ => false
theorem hp_fv_I {h : Hp} {ty : FieldType} {a k : Nat} (e : ty_I ty = true) : hp_fv h ty a k = .int (hp_i h a k) := by cases ty <;> first | rfl | cases e
theorem hp_fv_R {h : Hp} {ty : FieldType} {a k : Nat} (e : ty_R ty = true) : hp_fv h ty a k = va_rf (hp_r h a k) := by cases ty <;> first | rfl | cases e
theorem hp_fv_new {h : Hp} {kd : Nat ⊕ Nat} {len : Nat} {ty : FieldType} {k : Nat} (e : ty_D ty = false) : hp_fv (hp_new h kd len) ty (hp_n h) k = defaultValue ty := by
  cases ty <;> first | (simp [hp_fv, hp_new, hp_n, hp_i, hp_j, hp_r, va_rf, defaultValue]; done) | cases e
theorem hp_fv_new_ne {h : Hp} {kd : Nat ⊕ Nat} {len : Nat} {ty : FieldType} {a k : Nat} (e : a ≠ hp_n h) : hp_fv (hp_new h kd len) ty a k = hp_fv h ty a k := by
  have e' : a ≠ h.1 := e
  cases ty <;> simp [hp_fv, hp_new, hp_i, hp_j, hp_r, e']
theorem hp_fv_ui {h : Hp} {a k b j : Nat} {x : Int32} {ty : FieldType} (e : b ≠ a ∨ j ≠ k) : hp_fv (hp_ui h a k x) ty b j = hp_fv h ty b j := by
  have e' : ¬ (b = a ∧ j = k) := fun q => e.elim (fun z => z q.1) (fun z => z q.2)
  cases ty <;> simp [hp_fv, hp_ui, up2, hp_i, hp_j, hp_r, e']
theorem hp_fv_uj {h : Hp} {a k b j : Nat} {x : Int64} {ty : FieldType} (e : b ≠ a ∨ j ≠ k) : hp_fv (hp_uj h a k x) ty b j = hp_fv h ty b j := by
  have e' : ¬ (b = a ∧ j = k) := fun q => e.elim (fun z => z q.1) (fun z => z q.2)
  cases ty <;> simp [hp_fv, hp_uj, up2, hp_i, hp_j, hp_r, e']
theorem hp_fv_ur {h : Hp} {a k b j : Nat} {x : Option Nat} {ty : FieldType} (e : b ≠ a ∨ j ≠ k) : hp_fv (hp_ur h a k x) ty b j = hp_fv h ty b j := by
  have e' : ¬ (b = a ∧ j = k) := fun q => e.elim (fun z => z q.1) (fun z => z q.2)
  cases ty <;> simp [hp_fv, hp_ur, up2, hp_i, hp_j, hp_r, e']
/-- the cell a of the machine's heap is what the abstract one says -/
def hp_at (g : Gx) (h : Hp) (a : Nat) (H : Heap) : Prop := match hp_k h a with
  | .inl c => ∃ r : vw_C, sg_cl[c]? = some r ∧ t_OB a (g.2.1 c) r.2.2 (g.2.2.1 c) H (fun k => hp_fv h (sg_ft c k) a k)
  | .inr t => H[a]? = some (arrV (g.2.2.2.1 t) (hp_l h a) (fun j => hp_fv h (sg_at t) a j))
def Wd (g : Gx) (h : Hp) (H : Heap) : Prop := H.size = hp_n h ∧ gx_B g ≤ hp_n h ∧ (∀ a, a < gx_B g → H[a]? = (gx_H g)[a]?) ∧ ∀ a, gx_B g ≤ a → a < hp_n h → hp_at g h a H
theorem hp_at_kept {g : Gx} {h : Hp} {a : Nat} {H H1 : Heap} (x : hp_at g h a H) (e : H1[a]? = H[a]?) : hp_at g h a H1 := by
  unfold hp_at at x ⊢
  split at x
  · obtain ⟨r, h1, h2⟩ := x
    exact ⟨r, h1, h2.kept e⟩
  · rw [e]; exact x
theorem hp_at_cong {g : Gx} {h h1 : Hp} {a : Nat} {H : Heap} (e1 : hp_k h1 a = hp_k h a) (e2 : hp_l h1 a = hp_l h a) (e3 : ∀ ty j, hp_fv h1 ty a j = hp_fv h ty a j) (x : hp_at g h a H) : hp_at g h1 a H := by
  unfold hp_at at x ⊢
  rw [e1, e2]
  simp only [e3]
  exact x
theorem Wd_set {g : Gx} {h h1 : Hp} {H H1 : Heap} {a : Nat} (x : Wd g h H) (ha : gx_B g ≤ a) (hz : H1.size = H.size) (hn : hp_n h1 = hp_n h) (hq : ∀ q, q ≠ a → H1[q]? = H[q]?) (hat : hp_at g h1 a H1)
    (hk : hp_k h1 = hp_k h) (hl : hp_l h1 = hp_l h) (hf : ∀ q, q ≠ a → ∀ ty j, hp_fv h1 ty q j = hp_fv h ty q j) : Wd g h1 H1 := by
  obtain ⟨x1, x2, x3, x4⟩ := x
  refine ⟨by rw [hz, x1, hn], by rw [hn]; exact x2, fun q hb => ?_, fun q hb hlt => ?_⟩
  · rw [hq q (by omega)]; exact x3 q hb
  · by_cases e : q = a
    · subst e; exact hat
    · rw [hn] at hlt
      exact hp_at_kept (hp_at_cong (by rw [hk]) (by rw [hl]) (hf q e) (x4 q hb hlt)) (hq q e)
theorem Wd_new {g : Gx} {h : Hp} {H H1 : Heap} {kd : Nat ⊕ Nat} {len : Nat} (x : Wd g h H) (hz : H1.size = H.size + 1) (hq : ∀ q, q < H.size → H1[q]? = H[q]?) (hat : hp_at g (hp_new h kd len) (hp_n h) H1) : Wd g (hp_new h kd len) H1 := by
  obtain ⟨x1, x2, x3, x4⟩ := x
  have e0 : hp_n (hp_new h kd len) = hp_n h + 1 := rfl
  refine ⟨by rw [hz, x1, e0], by rw [e0]; omega, fun q hb => ?_, fun q hb hlt => ?_⟩
  · rw [hq q (by rw [x1]; omega)]; exact x3 q hb
  · by_cases e : q = hp_n h
    · subst e; exact hat
    · rw [e0] at hlt
      refine hp_at_kept (hp_at_cong ?_ ?_ (fun ty j => hp_fv_new_ne e) (x4 q hb (by omega))) (hq q (by rw [x1]; omega))
      · show va_up h.2.1 h.1 kd q = h.2.1 q
        exact va_up_ne _ _ e
      · show va_up h.2.2.1 h.1 len q = h.2.2.1 q
        exact va_up_ne _ _ e
/-- the tables -/
def tb_tys (g : Gx) : List (ClassId × FieldType) := (List.range sg_na).map (fun t => (g.2.2.2.1 t, sg_at t))
theorem tb_get {g : Gx} {t : Nat} (h : t < sg_na) : (tb_tys g)[t]? = some (g.2.2.2.1 t, sg_at t) := by
  simp [tb_tys, h]
def Tb (g : Gx) (U : State) : Prop := va_K (gx_D g) sg_cl (tb_tys g) U ∧ (∀ w ∈ sg_nest, va_Nw w U) ∧ ∀ C ∈ sg_refs, va_AO C U
theorem Tb_moved {g : Gx} {s U : State} (h : Tb g s) (hW : s.WarmedH U.vm) : Tb g U :=
  ⟨va_K.moved hW.alike h.1, fun w hw => sg_nest_warm hW w hw (h.2.1 w hw), fun C hC => (h.2.2 C hC).moved hW.alike⟩
theorem Tb_same {g : Gx} {s U : State} (h : Tb g s) (e : s.vm = U.vm) : Tb g U :=
  ⟨va_K.moved (by rw [e]; exact Vm.Alike.refl _) h.1, fun w hw => (h.2.1 w hw).same (sg_nest_tab w hw) e, fun C hC => (h.2.2 C hC).moved (by rw [e]; exact Vm.Alike.refl _)⟩
/-! METHODS: name, bytes, locals, answer, and a table of the instructions: pc, instruction, its length, the next pc, two numbers (a jump's goal; a field's class and place; a class; ..) -/
abbrev En : Type := Nat × Instr × Nat × Nat × Nat × Nat
abbrev Md : Type := MethodName × ByteArray × Nat × Option FieldType × List En
def md_y (M : Md) : MethodName := M.1
def md_b (M : Md) : ByteArray := M.2.1
def md_n (M : Md) : Nat := M.2.2.1
def md_r (M : Md) : Option FieldType := M.2.2.2.1
def md_t (M : Md) : List En := M.2.2.2.2
def en_f : List En → Nat → Option (Instr × Nat × Nat × Nat × Nat)
  | [], _ => none
  | q :: r, pc => cond (Nat.beq q.1 pc) (some q.2) (en_f r pc)
def md_f (M : Md) (pc : Nat) : Option (Instr × Nat × Nat × Nat × Nat) := en_f M.2.2.2.2 pc
theorem en_f_mem : ∀ {l : List En} {pc : Nat} {q : Instr × Nat × Nat × Nat × Nat}, en_f l pc = some q → (pc, q) ∈ l
  | [], _, _, h => by cases h
  | a :: r, pc, q, h => by
    unfold en_f at h
    cases e : Nat.beq a.1 pc with
    | true =>
      rw [e] at h
      have h1 : a.2 = q := Option.some.inj h
      have h2 : a.1 = pc := Nat.eq_of_beq_eq_true e
      rw [← h1, ← h2]
      exact List.mem_cons_self
    | false =>
      rw [e] at h
      exact List.mem_cons_of_mem _ (en_f_mem h)
def en_off : Instr → Option Int
  | .goto o => some o
  | .ifCond _ o => some o
  | .if_icmp _ o => some o
  | .ifnull o => some o
  | .ifnonnull o => some o
  | .if_acmp _ o => some o
  | _ => none
def en_jmp (q : En) : Bool := match en_off q.2.1 with
  | some o => decide ((q.1 : Int) + o = (q.2.2.2.2.1 : Int))
  | none => true
def en_dec (b : ByteArray) (q : En) : Bool := decide (decode b q.1 = .ok (q.2.1, q.2.2.1)) && (decide (q.2.2.2.1 = q.1 + q.2.2.1) && en_jmp q)
/-- a field's link, the class's own or a nest mate's -/
def fd_ok (own : String) (idx ci k : Nat) : Prop := ∃ r : vw_C, sg_cl[ci]? = some r ∧ k < r.2.2 ∧ (Cond.fieldLink own idx (r.2.1 k).1 (r.2.1 k).2.1 (r.2.1 k).2.2.1 ∈ sg_tbl ∨ Cond.fieldLinkNest own idx (r.2.1 k).1 (r.2.1 k).2.1 (r.2.1 k).2.2.1 sg_host ∈ sg_nest)
def en_lk (own : String) (q : En) : Prop := match q.2.1 with
  | .getfield i => fd_ok own i q.2.2.2.2.1 q.2.2.2.2.2
  | .putfield i => fd_ok own i q.2.2.2.2.1 q.2.2.2.2.2
  | _ => True
def md_ok (M : Md) : Prop := ((md_t M).all (en_dec (md_b M))) = true ∧ ∀ q ∈ md_t M, en_lk (md_y M).cls q
theorem md_get {M : Md} (hM : md_ok M) {pc idx len n x y : Nat} (hf : md_f M pc = some (.getfield idx, len, n, x, y)) : fd_ok (md_y M).cls idx x y := hM.2 _ (en_f_mem hf)
theorem md_put {M : Md} (hM : md_ok M) {pc idx len n x y : Nat} (hf : md_f M pc = some (.putfield idx, len, n, x, y)) : fd_ok (md_y M).cls idx x y := hM.2 _ (en_f_mem hf)
theorem md_dec {M : Md} (hM : md_ok M) {pc : Nat} {i : Instr} {len n x y : Nat} (hf : md_f M pc = some (i, len, n, x, y)) : decode (md_b M) pc = .ok (i, len) ∧ n = pc + len ∧ ∀ o, en_off i = some o → (pc : Int) + o = (x : Int) := by
  have h := List.all_eq_true.mp hM.1 _ (en_f_mem hf)
  unfold en_dec at h
  simp only [Bool.and_eq_true, decide_eq_true_eq] at h
  refine ⟨h.1, h.2.1, fun o ho => ?_⟩
  have h3 := h.2.2
  unfold en_jmp at h3
  simp only [ho, decide_eq_true_eq] at h3
  exact h3
def md_ws (M : Md) : List Cond := .code M.1 M.2.1 M.2.2.1 M.2.2.2.1 :: sg_tbl
/-! THE LOCALS -/
def lc_p : Nat → List (Option Value) → List (Nat × Value)
  | _, [] => []
  | i, none :: r => lc_p (i + 1) r
  | i, some v :: r => (i, v) :: lc_p (i + 1) r
theorem lc_mem : ∀ (L : List (Option Value)) (i : Nat) (q : Nat × Value), q ∈ lc_p i L → ∃ k, L[k]? = some (some q.2) ∧ q.1 = i + k
  | [], _, q, h => by simp [lc_p] at h
  | none :: r, i, q, h => by
    obtain ⟨k, h1, h2⟩ := lc_mem r (i + 1) q h
    exact ⟨k + 1, by simpa using h1, by omega⟩
  | some v :: r, i, q, h => by
    rcases List.mem_cons.mp h with h | h
    · subst h
      exact ⟨0, rfl, rfl⟩
    · obtain ⟨k, h1, h2⟩ := lc_mem r (i + 1) q h
      exact ⟨k + 1, by simpa using h1, by omega⟩
theorem lc_in : ∀ (L : List (Option Value)) (i k : Nat) (v : Value), L[k]? = some (some v) → (i + k, v) ∈ lc_p i L
  | [], _, k, v, h => by simp at h
  | a :: r, i, 0, v, h => by
    have e : a = some v := by simpa using h
    subst e
    exact List.mem_cons_self
  | a :: r, i, k + 1, v, h => by
    have h1 : r[k]? = some (some v) := by simpa using h
    have h2 := lc_in r (i + 1) k v h1
    have e : i + 1 + k = i + (k + 1) := by omega
    rw [e] at h2
    cases a with
    | none => exact h2
    | some w => exact List.mem_cons_of_mem _ h2
def lvk (ls : Array Slot) (nL : Nat) (L : List (Option Value)) : Prop := lv_has ls nL (lc_p 0 L) ∧ L.length = nL
theorem lvk_at {ls : Array Slot} {nL : Nat} {L : List (Option Value)} (h : lvk ls nL L) {i : Nat} {v : Value} (e : L[i]? = some (some v)) : ls[i]? = some (.val v) := by
  have h1 := lc_in L 0 i v e
  rw [Nat.zero_add] at h1
  exact h.1.2.2 (i, v) h1
/-- the value is of one word, or nothing is known -/
def lc_1 (a : Option Value) : Bool := match a with
  | some (.long _) => false
  | some (.double _) => false
  | _ => true
theorem lc_1_cat {v : Value} (h : lc_1 (some v) = true) : v.category = 1 := by cases v <;> first | rfl | cases h
def lc_s (L : List (Option Value)) (i : Nat) : Bool := match i with
  | 0 => true
  | i + 1 => lc_1 (L.getD i none)
theorem lc_st1 {ls : Array Slot} {nL : Nat} {L : List (Option Value)} {i : Nat} {v : Value} {ls1 : Array Slot} (h : lvk ls nL L) (hs : lc_s L i = true)
    (h1 : lv_has ls1 nL ((i, v) :: (lc_p 0 L).filter (fun q => !(q.1 == i) && !(q.1 + 1 == i && q.2.category == 2)))) : lvk ls1 nL (L.set i (some v)) := by
  refine ⟨⟨h1.1, h1.2.1, fun q hq => ?_⟩, by rw [List.length_set]; exact h.2⟩
  obtain ⟨k, hk, e⟩ := lc_mem _ _ _ hq
  rw [Nat.zero_add] at e
  subst e
  apply h1.2.2
  by_cases e : q.1 = i
  · rw [List.getElem?_set] at hk
    subst e
    have h2 : q.2 = v := by
      split at hk
      · split at hk
        · exact (Option.some.inj (Option.some.inj hk)).symm
        · cases hk
      · contradiction
    rw [← h2]
    exact List.mem_cons_self
  · rw [List.getElem?_set_ne (Ne.symm e)] at hk
    refine List.mem_cons_of_mem _ (List.mem_filter.mpr ⟨?_, ?_⟩)
    · have h3 := lc_in L 0 q.1 q.2 hk
      rw [Nat.zero_add] at h3
      exact h3
    · simp only [Bool.and_eq_true, Bool.not_eq_true', beq_eq_false_iff_ne, ne_eq, Bool.and_eq_false_iff]
      refine ⟨e, ?_⟩
      by_cases e2 : q.1 + 1 = i
      · right
        subst e2
        have h4 : L.getD q.1 none = some q.2 := by simp [List.getD, hk]
        have h5 : lc_1 (some q.2) = true := by
          have : lc_s L (q.1 + 1) = lc_1 (L.getD q.1 none) := rfl
          rw [← h4, ← this]; exact hs
        have h6 := lc_1_cat h5
        omega
      · exact Or.inl e2
theorem lc_st2 {ls : Array Slot} {nL : Nat} {L : List (Option Value)} {i : Nat} {v : Value} {ls1 : Array Slot} (h : lvk ls nL L) (hs : lc_s L i = true)
    (h1 : lv_has ls1 nL ((i, v) :: (lc_p 0 L).filter (fun q => !(q.1 == i) && (!(q.1 == i + 1) && !(q.1 + 1 == i && q.2.category == 2))))) : lvk ls1 nL ((L.set i (some v)).set (i + 1) none) := by
  refine ⟨⟨h1.1, h1.2.1, fun q hq => ?_⟩, by rw [List.length_set, List.length_set]; exact h.2⟩
  obtain ⟨k, hk, e⟩ := lc_mem _ _ _ hq
  rw [Nat.zero_add] at e
  subst e
  apply h1.2.2
  have en : q.1 ≠ i + 1 := by
    intro e
    rw [List.getElem?_set] at hk
    rw [if_pos e.symm] at hk
    split at hk <;> cases hk
  rw [List.getElem?_set_ne (Ne.symm en)] at hk
  by_cases e : q.1 = i
  · rw [List.getElem?_set] at hk
    subst e
    have h2 : q.2 = v := by
      split at hk
      · split at hk
        · exact (Option.some.inj (Option.some.inj hk)).symm
        · cases hk
      · contradiction
    rw [← h2]
    exact List.mem_cons_self
  · rw [List.getElem?_set_ne (Ne.symm e)] at hk
    refine List.mem_cons_of_mem _ (List.mem_filter.mpr ⟨?_, ?_⟩)
    · have h3 := lc_in L 0 q.1 q.2 hk
      rw [Nat.zero_add] at h3
      exact h3
    · simp only [Bool.and_eq_true, Bool.not_eq_true', beq_eq_false_iff_ne, ne_eq, Bool.and_eq_false_iff]
      refine ⟨e, en, ?_⟩
      by_cases e2 : q.1 + 1 = i
      · right
        subst e2
        have h4 : L.getD q.1 none = some q.2 := by simp [List.getD, hk]
        have h5 : lc_1 (some q.2) = true := by
          have : lc_s L (q.1 + 1) = lc_1 (L.getD q.1 none) := rfl
          rw [← h4, ← this]; exact hs
        have h6 := lc_1_cat h5
        omega
      · exact Or.inl e2
/-- the locals with which a method begins -/
def lc_a : List Value → Nat → List (Option Value)
  | [], n => List.replicate n none
  | .long x :: r, n => some (.long x) :: none :: lc_a r (n - 2)
  | .double x :: r, n => some (.double x) :: none :: lc_a r (n - 2)
  | v :: r, n => some v :: lc_a r (n - 1)
theorem lc_a_args : ∀ (vs : List Value) (n i : Nat) (q : Nat × Value), q ∈ lc_p i (lc_a vs n) → q ∈ lv_args i vs
  | [], n, i, q, h => by
    obtain ⟨k, h1, -⟩ := lc_mem _ _ _ h
    simp only [lc_a] at h1
    rw [List.getElem?_replicate] at h1
    split at h1 <;> cases h1
  | v :: r, n, i, q, h => by
    cases v <;> first
      | (have h1 : q ∈ (i, _) :: lc_p (i + 1 + 1) (lc_a r (n - 2)) := h
         rcases List.mem_cons.mp h1 with e | e
         · subst e; exact List.mem_cons_self
         · exact List.mem_cons_of_mem _ (lc_a_args r (n - 2) (i + 2) q e))
      | (have h1 : q ∈ (i, _) :: lc_p (i + 1) (lc_a r (n - 1)) := h
         rcases List.mem_cons.mp h1 with e | e
         · subst e; exact List.mem_cons_self
         · exact List.mem_cons_of_mem _ (lc_a_args r (n - 1) (i + 1) q e))
/-! THE JUDGEMENT -/
def Cx (g : Gx) (M : Md) (p : Program) (s : State) (m : MethodId) (args : Array Value) (meth : Method) (c : Code) : Prop :=
  p.tables.exec = Jvm.exec ∧ c.code = md_b M ∧ c.maxLocals = md_n M ∧ meth.sig.returnType = md_r M ∧ s.vm.findClass (md_y M).cls = some m.cls ∧ (∀ w ∈ sg_tbl, w.before args s = true) ∧ meth.locks = false ∧ Tb g s ∧ meth.name = (md_y M).name ∧ gx_B g ≤ s.heap.size ∧ md_ok M
abbrev Zx : Type := List Frame → Array Value → State → State → Prop
/-- from this point of the method M the machine comes to Z -/
def Ok (g : Gx) (M : Md) (R : Room) (Z : Zx) (kc ks : Nat) (h : Hp) (pc : Nat) (L : List (Option Value)) (st : List Value) : Prop :=
  ∀ (p : Program) (e : Env) (s : State) (m : MethodId) (args : Array Value) (below : List Frame) (meth : Method) (c : Code) (H : Heap) (locs : List Loc) (ls : Array Slot),
    Cx g M p s m args meth c → Wd g h H → (∀ q ∈ locs, gx_B g ≤ q.base) → lvk ls (md_n M) L → W p (gx_l g) e R s m args below meth c H locs kc ks (Z below args s) (F0 m pc ls st)
def Qx (g : Gx) (Q : Option Value → Hp → Prop) : Array Value → State → Outcome → State → Prop := fun _ _ o t => ∃ (r : Option Value) (h : Hp), o = .returned r ∧ Q r h ∧ Wd g h t.heap ∧ Tb g t
def rmd (d mc ms : Nat) : Room := { frames := d, cells := mc, slots := ms, locals := 48 * d }
def Zm (g : Gx) (mc ms : Nat) (Q : Option Value → Hp → Prop) : Zx := fun below args s => MQ below (Qx g Q) args s mc ms (fun q => gx_B g ≤ q)
/-- the contract: at depth d, with mc cells of ms slots at most -/
def Ct (g : Gx) (M : Md) (d mc ms : Nat) (As : List Value) (h : Hp) (Q : Option Value → Hp → Prop) : Prop :=
  Met (gx_l g) (md_y M) (md_ws M) (rmd d mc ms) (va_Pc As (fun U => Wd g h U.heap ∧ Tb g U)) (Qx g Q) mc ms (fun q => gx_B g ≤ q)
set_option maxHeartbeats 1000000 in
theorem ct_of {g : Gx} {M : Md} {d mc ms : Nat} {As : List Value} {h : Hp} {Q : Option Value → Hp → Prop} (hM : md_ok M) (hy : plainName (md_y M).cls = true) (hl : (lg_sl As).length ≤ md_n M) (L : List (Option Value)) (hL : lc_a As (md_n M) = L) (hL2 : L.length = md_n M)
    (k : Ok g M (rmd d mc ms) (Zm g mc ms Q) 0 0 h 0 L []) : Ct g M d mc ms As h Q := by
  refine Met.ofW (cc := md_b M) (maxL := md_n M) (ret := md_r M) hy rfl ?_
  intro p e s m args below meth c s₁ B hml hv
  obtain ⟨rfl, hW, hT⟩ := hv
  have hts := atoms_spec (ws := md_ws M) B.pre
  have he := lv_entry As hl
  rw [lg_entry_eq]
  refine k p e s m As.toArray below meth c s.heap [] _ ⟨B.exec, B.bytes, hml, B.returns, findClass_of_methodNamed B.named, fun w hw => hts w (List.mem_cons_of_mem _ hw), B.notSynchronized, hT, (name_of_methodNamed B.named B.method).1, ?_, hM⟩ hW (fun q hq => by cases hq) ⟨⟨he.1, he.2.1, fun q hq => he.2.2 q ?_⟩, hL2⟩
  · rw [hW.1]; exact hW.2.1
  · rw [← hL] at hq
    exact lc_a_args As (md_n M) 0 q hq
section ROWS
variable {g : Gx} {M : Md} {R : Room} {Z : Zx} {kc ks : Nat} {h : Hp} {pc : Nat} {L : List (Option Value)} {st : List Value}
theorem k_iconst {n x0 y0 : Nat} {i : Int} {v : Int32} (hf : md_f M pc = some (.iconst i, 1, n, x0, y0)) (hv : Int32.ofInt i = v) (k : Ok g M R Z kc ks h n L (.int v :: st)) : Ok g M R Z kc ks h pc L (st) := by
  intro p e s m args below meth c H locs ls C hW hF hl
  obtain ⟨hd, hn, ho⟩ := md_dec C.2.2.2.2.2.2.2.2.2.2 hf
  subst hn
  exact lv_iconst C.1 C.2.1 hd hv (k p e s m args below meth c H locs ls C hW hF hl)
theorem k_bipush {n x0 y0 : Nat} {i : Int} {v : Int32} (hf : md_f M pc = some (.bipush i, 2, n, x0, y0)) (hv : (Int8.ofInt i).toInt32 = v) (k : Ok g M R Z kc ks h n L (.int v :: st)) : Ok g M R Z kc ks h pc L (st) := by
  intro p e s m args below meth c H locs ls C hW hF hl
  obtain ⟨hd, hn, ho⟩ := md_dec C.2.2.2.2.2.2.2.2.2.2 hf
  subst hn
  exact lv_bipush C.1 C.2.1 hd hv (k p e s m args below meth c H locs ls C hW hF hl)
theorem k_sipush {n x0 y0 : Nat} {i : Int} {v : Int32} (hf : md_f M pc = some (.sipush i, 3, n, x0, y0)) (hv : (Int16.ofInt i).toInt32 = v) (k : Ok g M R Z kc ks h n L (.int v :: st)) : Ok g M R Z kc ks h pc L (st) := by
  intro p e s m args below meth c H locs ls C hW hF hl
  obtain ⟨hd, hn, ho⟩ := md_dec C.2.2.2.2.2.2.2.2.2.2 hf
  subst hn
  exact lv_sipush C.1 C.2.1 hd hv (k p e s m args below meth c H locs ls C hW hF hl)
theorem k_lconst {n x0 y0 : Nat} {i : Fin 2} {v : Int64} (hf : md_f M pc = some (.lconst i, 1, n, x0, y0)) (hv : Int64.ofNat (i : Nat) = v) (k : Ok g M R Z kc ks h n L (.long v :: st)) : Ok g M R Z kc ks h pc L (st) := by
  intro p e s m args below meth c H locs ls C hW hF hl
  obtain ⟨hd, hn, ho⟩ := md_dec C.2.2.2.2.2.2.2.2.2.2 hf
  subst hn
  exact lv_lconst C.1 C.2.1 hd hv (k p e s m args below meth c H locs ls C hW hF hl)
theorem k_null {n x0 y0 : Nat}  (hf : md_f M pc = some (.aconst_null, 1, n, x0, y0))  (k : Ok g M R Z kc ks h n L (.null :: st)) : Ok g M R Z kc ks h pc L (st) := by
  intro p e s m args below meth c H locs ls C hW hF hl
  obtain ⟨hd, hn, ho⟩ := md_dec C.2.2.2.2.2.2.2.2.2.2 hf
  subst hn
  exact lv_null C.1 C.2.1 hd  (k p e s m args below meth c H locs ls C hW hF hl)
theorem k_ldc {n x0 y0 : Nat} {idx : Nat} {v : Int32} (hf : md_f M pc = some (.ldc idx, 2, n, x0, y0)) (hw : Cond.constant (md_y M).cls idx v ∈ sg_tbl) (k : Ok g M R Z kc ks h n L (.int v :: st)) : Ok g M R Z kc ks h pc L st := by
  intro p e s m args below meth c H locs ls C hW hF hl
  obtain ⟨hd, hn, ho⟩ := md_dec C.2.2.2.2.2.2.2.2.2.2 hf
  subst hn
  exact lv_ldc C.1 C.2.1 C.2.2.2.2.1 (C.2.2.2.2.2.1 _ hw) hd (k p e s m args below meth c H locs ls C hW hF hl)
theorem k_ldc2 {n x0 y0 : Nat} {idx : Nat} {v : Int64} (hf : md_f M pc = some (.ldc2_w idx, 3, n, x0, y0)) (hw : Cond.constantLong (md_y M).cls idx v ∈ sg_tbl) (k : Ok g M R Z kc ks h n L (.long v :: st)) : Ok g M R Z kc ks h pc L st := by
  intro p e s m args below meth c H locs ls C hW hF hl
  obtain ⟨hd, hn, ho⟩ := md_dec C.2.2.2.2.2.2.2.2.2.2 hf
  subst hn
  exact lv_ldc2 C.1 C.2.1 C.2.2.2.2.1 (C.2.2.2.2.2.1 _ hw) hd (k p e s m args below meth c H locs ls C hW hF hl)
theorem k_iload {n x0 y0 : Nat} {i : Nat} {x : Int32} (hf : md_f M pc = some (.iload i, 2, n, x0, y0)) (hx : L[i]? = some (some (.int x))) (k : Ok g M R Z kc ks h n L (.int x :: st)) : Ok g M R Z kc ks h pc L st := by
  intro p e s m args below meth c H locs ls C hW hF hl
  obtain ⟨hd, hn, ho⟩ := md_dec C.2.2.2.2.2.2.2.2.2.2 hf
  subst hn
  exact lv_iload C.1 C.2.1 hd (lvk_at hl hx) (k p e s m args below meth c H locs ls C hW hF hl)
theorem k_iload_n {n x0 y0 : Nat} {i : Fin 4} {x : Int32} (hf : md_f M pc = some (.iload_n i, 1, n, x0, y0)) (hx : L[(i : Nat)]? = some (some (.int x))) (k : Ok g M R Z kc ks h n L (.int x :: st)) : Ok g M R Z kc ks h pc L st := by
  intro p e s m args below meth c H locs ls C hW hF hl
  obtain ⟨hd, hn, ho⟩ := md_dec C.2.2.2.2.2.2.2.2.2.2 hf
  subst hn
  exact lv_iload_n C.1 C.2.1 hd rfl (lvk_at hl hx) (k p e s m args below meth c H locs ls C hW hF hl)
theorem k_lload {n x0 y0 : Nat} {i : Nat} {x : Int64} (hf : md_f M pc = some (.lload i, 2, n, x0, y0)) (hx : L[i]? = some (some (.long x))) (k : Ok g M R Z kc ks h n L (.long x :: st)) : Ok g M R Z kc ks h pc L st := by
  intro p e s m args below meth c H locs ls C hW hF hl
  obtain ⟨hd, hn, ho⟩ := md_dec C.2.2.2.2.2.2.2.2.2.2 hf
  subst hn
  exact lv_lload C.1 C.2.1 hd (lvk_at hl hx) (k p e s m args below meth c H locs ls C hW hF hl)
theorem k_lload_n {n x0 y0 : Nat} {i : Fin 4} {x : Int64} (hf : md_f M pc = some (.lload_n i, 1, n, x0, y0)) (hx : L[(i : Nat)]? = some (some (.long x))) (k : Ok g M R Z kc ks h n L (.long x :: st)) : Ok g M R Z kc ks h pc L st := by
  intro p e s m args below meth c H locs ls C hW hF hl
  obtain ⟨hd, hn, ho⟩ := md_dec C.2.2.2.2.2.2.2.2.2.2 hf
  subst hn
  exact lv_lload_n C.1 C.2.1 hd rfl (lvk_at hl hx) (k p e s m args below meth c H locs ls C hW hF hl)
theorem k_aload {n x0 y0 : Nat} {i : Nat} {x : Nat} (hf : md_f M pc = some (.aload i, 2, n, x0, y0)) (hx : L[i]? = some (some (.ref x))) (k : Ok g M R Z kc ks h n L (.ref x :: st)) : Ok g M R Z kc ks h pc L st := by
  intro p e s m args below meth c H locs ls C hW hF hl
  obtain ⟨hd, hn, ho⟩ := md_dec C.2.2.2.2.2.2.2.2.2.2 hf
  subst hn
  exact lv_aload C.1 C.2.1 hd (lvk_at hl hx) (k p e s m args below meth c H locs ls C hW hF hl)
theorem k_aload_n {n x0 y0 : Nat} {i : Fin 4} {x : Nat} (hf : md_f M pc = some (.aload_n i, 1, n, x0, y0)) (hx : L[(i : Nat)]? = some (some (.ref x))) (k : Ok g M R Z kc ks h n L (.ref x :: st)) : Ok g M R Z kc ks h pc L st := by
  intro p e s m args below meth c H locs ls C hW hF hl
  obtain ⟨hd, hn, ho⟩ := md_dec C.2.2.2.2.2.2.2.2.2.2 hf
  subst hn
  exact lv_aload_n C.1 C.2.1 hd rfl (lvk_at hl hx) (k p e s m args below meth c H locs ls C hW hF hl)
theorem k_istore {n x0 y0 : Nat} {i : Nat} {x : Int32} {L1 : List (Option Value)} (hf : md_f M pc = some (.istore i, 2, n, x0, y0)) (hi : i < L.length) (hs : lc_s L i = true) (hL : L.set i (some (.int x)) = L1) (k : Ok g M R Z kc ks h n L1 st) : Ok g M R Z kc ks h pc L (.int x :: st) := by
  intro p e s m args below meth c H locs ls C hW hF hl
  obtain ⟨hd, hn, ho⟩ := md_dec C.2.2.2.2.2.2.2.2.2.2 hf
  subst hn
  subst hL
  exact lv_istore C.1 C.2.1 hd hl.1 (by rw [← hl.2]; exact hi) rfl (fun ls1 h1 => k p e s m args below meth c H locs ls1 C hW hF (lc_st1 hl hs h1))
theorem k_istore_n {n x0 y0 : Nat} {i : Fin 4} {x : Int32} {L1 : List (Option Value)} (hf : md_f M pc = some (.istore_n i, 1, n, x0, y0)) (hi : (i : Nat) < L.length) (hs : lc_s L (i : Nat) = true) (hL : L.set (i : Nat) (some (.int x)) = L1) (k : Ok g M R Z kc ks h n L1 st) : Ok g M R Z kc ks h pc L (.int x :: st) := by
  intro p e s m args below meth c H locs ls C hW hF hl
  obtain ⟨hd, hn, ho⟩ := md_dec C.2.2.2.2.2.2.2.2.2.2 hf
  subst hn
  subst hL
  exact lv_istore_n C.1 C.2.1 hd rfl hl.1 (by rw [← hl.2]; exact hi) rfl (fun ls1 h1 => k p e s m args below meth c H locs ls1 C hW hF (lc_st1 hl hs h1))
theorem k_lstore {n x0 y0 : Nat} {i : Nat} {x : Int64} {L1 : List (Option Value)} (hf : md_f M pc = some (.lstore i, 2, n, x0, y0)) (hi : i + 1 < L.length) (hs : lc_s L i = true) (hL : (L.set i (some (.long x))).set (i + 1) none = L1) (k : Ok g M R Z kc ks h n L1 st) : Ok g M R Z kc ks h pc L (.long x :: st) := by
  intro p e s m args below meth c H locs ls C hW hF hl
  obtain ⟨hd, hn, ho⟩ := md_dec C.2.2.2.2.2.2.2.2.2.2 hf
  subst hn
  subst hL
  exact lv_lstore C.1 C.2.1 hd hl.1 (by rw [← hl.2]; exact hi) rfl (fun ls1 h1 => k p e s m args below meth c H locs ls1 C hW hF (lc_st2 hl hs h1))
theorem k_lstore_n {n x0 y0 : Nat} {i : Fin 4} {x : Int64} {L1 : List (Option Value)} (hf : md_f M pc = some (.lstore_n i, 1, n, x0, y0)) (hi : (i : Nat) + 1 < L.length) (hs : lc_s L (i : Nat) = true) (hL : (L.set (i : Nat) (some (.long x))).set ((i : Nat) + 1) none = L1) (k : Ok g M R Z kc ks h n L1 st) : Ok g M R Z kc ks h pc L (.long x :: st) := by
  intro p e s m args below meth c H locs ls C hW hF hl
  obtain ⟨hd, hn, ho⟩ := md_dec C.2.2.2.2.2.2.2.2.2.2 hf
  subst hn
  subst hL
  exact lv_lstore_n C.1 C.2.1 hd rfl hl.1 (by rw [← hl.2]; exact hi) rfl (fun ls1 h1 => k p e s m args below meth c H locs ls1 C hW hF (lc_st2 hl hs h1))
theorem k_astore {n x0 y0 : Nat} {i : Nat} {x : Nat} {L1 : List (Option Value)} (hf : md_f M pc = some (.astore i, 2, n, x0, y0)) (hi : i < L.length) (hs : lc_s L i = true) (hL : L.set i (some (.ref x)) = L1) (k : Ok g M R Z kc ks h n L1 st) : Ok g M R Z kc ks h pc L (.ref x :: st) := by
  intro p e s m args below meth c H locs ls C hW hF hl
  obtain ⟨hd, hn, ho⟩ := md_dec C.2.2.2.2.2.2.2.2.2.2 hf
  subst hn
  subst hL
  exact lv_astore C.1 C.2.1 hd hl.1 (by rw [← hl.2]; exact hi) rfl (fun ls1 h1 => k p e s m args below meth c H locs ls1 C hW hF (lc_st1 hl hs h1))
theorem k_astore_n {n x0 y0 : Nat} {i : Fin 4} {x : Nat} {L1 : List (Option Value)} (hf : md_f M pc = some (.astore_n i, 1, n, x0, y0)) (hi : (i : Nat) < L.length) (hs : lc_s L (i : Nat) = true) (hL : L.set (i : Nat) (some (.ref x)) = L1) (k : Ok g M R Z kc ks h n L1 st) : Ok g M R Z kc ks h pc L (.ref x :: st) := by
  intro p e s m args below meth c H locs ls C hW hF hl
  obtain ⟨hd, hn, ho⟩ := md_dec C.2.2.2.2.2.2.2.2.2.2 hf
  subst hn
  subst hL
  exact lv_astore_n C.1 C.2.1 hd rfl hl.1 (by rw [← hl.2]; exact hi) rfl (fun ls1 h1 => k p e s m args below meth c H locs ls1 C hW hF (lc_st1 hl hs h1))
theorem k_iinc {n x0 y0 : Nat} {i : Nat} {u : Int} {x v : Int32} {L1 : List (Option Value)} (hf : md_f M pc = some (.iinc i u, 3, n, x0, y0)) (hx : L[i]? = some (some (.int x))) (hv : x + Int32.ofInt u = v) (hs : lc_s L i = true) (hL : L.set i (some (.int v)) = L1) (k : Ok g M R Z kc ks h n L1 st) : Ok g M R Z kc ks h pc L st := by
  intro p e s m args below meth c H locs ls C hW hF hl
  obtain ⟨hd, hn, ho⟩ := md_dec C.2.2.2.2.2.2.2.2.2.2 hf
  subst hn
  subst hL
  have h1 := lc_in L 0 i _ hx
  rw [Nat.zero_add] at h1
  obtain ⟨q, hq⟩ := List.getElem?_of_mem h1
  have hi : i < L.length := (List.getElem?_eq_some_iff.mp hx).1
  exact lv_iinc C.1 C.2.1 hd hl.1 (k := q) hq hv (by rw [← hl.2]; exact hi) rfl (fun ls1 h1 => k p e s m args below meth c H locs ls1 C hW hF (lc_st1 hl hs h1))
theorem k_iadd {n x0 y0 : Nat} {x y : Int32} (hf : md_f M pc = some (.iadd, 1, n, x0, y0))  (k : Ok g M R Z kc ks h n L (.int (x + y) :: st)) : Ok g M R Z kc ks h pc L (.int y :: .int x :: st) := by
  intro p e s m args below meth c H locs ls C hW hF hl
  obtain ⟨hd, hn, ho⟩ := md_dec C.2.2.2.2.2.2.2.2.2.2 hf
  subst hn
  exact lv_iadd C.1 C.2.1 hd  (k p e s m args below meth c H locs ls C hW hF hl)
theorem k_isub {n x0 y0 : Nat} {x y : Int32} (hf : md_f M pc = some (.isub, 1, n, x0, y0))  (k : Ok g M R Z kc ks h n L (.int (x - y) :: st)) : Ok g M R Z kc ks h pc L (.int y :: .int x :: st) := by
  intro p e s m args below meth c H locs ls C hW hF hl
  obtain ⟨hd, hn, ho⟩ := md_dec C.2.2.2.2.2.2.2.2.2.2 hf
  subst hn
  exact lv_isub C.1 C.2.1 hd  (k p e s m args below meth c H locs ls C hW hF hl)
theorem k_imul {n x0 y0 : Nat} {x y : Int32} (hf : md_f M pc = some (.imul, 1, n, x0, y0))  (k : Ok g M R Z kc ks h n L (.int (x * y) :: st)) : Ok g M R Z kc ks h pc L (.int y :: .int x :: st) := by
  intro p e s m args below meth c H locs ls C hW hF hl
  obtain ⟨hd, hn, ho⟩ := md_dec C.2.2.2.2.2.2.2.2.2.2 hf
  subst hn
  exact lv_imul C.1 C.2.1 hd  (k p e s m args below meth c H locs ls C hW hF hl)
theorem k_iand {n x0 y0 : Nat} {x y : Int32} (hf : md_f M pc = some (.iand, 1, n, x0, y0))  (k : Ok g M R Z kc ks h n L (.int (x &&& y) :: st)) : Ok g M R Z kc ks h pc L (.int y :: .int x :: st) := by
  intro p e s m args below meth c H locs ls C hW hF hl
  obtain ⟨hd, hn, ho⟩ := md_dec C.2.2.2.2.2.2.2.2.2.2 hf
  subst hn
  exact lv_iand C.1 C.2.1 hd  (k p e s m args below meth c H locs ls C hW hF hl)
theorem k_ior {n x0 y0 : Nat} {x y : Int32} (hf : md_f M pc = some (.ior, 1, n, x0, y0))  (k : Ok g M R Z kc ks h n L (.int (x ||| y) :: st)) : Ok g M R Z kc ks h pc L (.int y :: .int x :: st) := by
  intro p e s m args below meth c H locs ls C hW hF hl
  obtain ⟨hd, hn, ho⟩ := md_dec C.2.2.2.2.2.2.2.2.2.2 hf
  subst hn
  exact lv_ior C.1 C.2.1 hd  (k p e s m args below meth c H locs ls C hW hF hl)
theorem k_ixor {n x0 y0 : Nat} {x y : Int32} (hf : md_f M pc = some (.ixor, 1, n, x0, y0))  (k : Ok g M R Z kc ks h n L (.int (x ^^^ y) :: st)) : Ok g M R Z kc ks h pc L (.int y :: .int x :: st) := by
  intro p e s m args below meth c H locs ls C hW hF hl
  obtain ⟨hd, hn, ho⟩ := md_dec C.2.2.2.2.2.2.2.2.2.2 hf
  subst hn
  exact lv_ixor C.1 C.2.1 hd  (k p e s m args below meth c H locs ls C hW hF hl)
theorem k_idiv {n x0 y0 : Nat} {x y : Int32} (hf : md_f M pc = some (.idiv, 1, n, x0, y0)) (hy : ¬ y = 0) (k : Ok g M R Z kc ks h n L (.int (x / y) :: st)) : Ok g M R Z kc ks h pc L (.int y :: .int x :: st) := by
  intro p e s m args below meth c H locs ls C hW hF hl
  obtain ⟨hd, hn, ho⟩ := md_dec C.2.2.2.2.2.2.2.2.2.2 hf
  subst hn
  exact lv_idiv C.1 C.2.1 hd hy (k p e s m args below meth c H locs ls C hW hF hl)
theorem k_irem {n x0 y0 : Nat} {x y : Int32} (hf : md_f M pc = some (.irem, 1, n, x0, y0)) (hy : ¬ y = 0) (k : Ok g M R Z kc ks h n L (.int (x - x / y * y) :: st)) : Ok g M R Z kc ks h pc L (.int y :: .int x :: st) := by
  intro p e s m args below meth c H locs ls C hW hF hl
  obtain ⟨hd, hn, ho⟩ := md_dec C.2.2.2.2.2.2.2.2.2.2 hf
  subst hn
  exact lv_irem C.1 C.2.1 hd hy (k p e s m args below meth c H locs ls C hW hF hl)
theorem k_ladd {n x0 y0 : Nat} {x y : Int64} (hf : md_f M pc = some (.ladd, 1, n, x0, y0))  (k : Ok g M R Z kc ks h n L (.long (x + y) :: st)) : Ok g M R Z kc ks h pc L (.long y :: .long x :: st) := by
  intro p e s m args below meth c H locs ls C hW hF hl
  obtain ⟨hd, hn, ho⟩ := md_dec C.2.2.2.2.2.2.2.2.2.2 hf
  subst hn
  exact lv_ladd C.1 C.2.1 hd  (k p e s m args below meth c H locs ls C hW hF hl)
theorem k_lsub {n x0 y0 : Nat} {x y : Int64} (hf : md_f M pc = some (.lsub, 1, n, x0, y0))  (k : Ok g M R Z kc ks h n L (.long (x - y) :: st)) : Ok g M R Z kc ks h pc L (.long y :: .long x :: st) := by
  intro p e s m args below meth c H locs ls C hW hF hl
  obtain ⟨hd, hn, ho⟩ := md_dec C.2.2.2.2.2.2.2.2.2.2 hf
  subst hn
  exact lv_lsub C.1 C.2.1 hd  (k p e s m args below meth c H locs ls C hW hF hl)
theorem k_lmul {n x0 y0 : Nat} {x y : Int64} (hf : md_f M pc = some (.lmul, 1, n, x0, y0))  (k : Ok g M R Z kc ks h n L (.long (x * y) :: st)) : Ok g M R Z kc ks h pc L (.long y :: .long x :: st) := by
  intro p e s m args below meth c H locs ls C hW hF hl
  obtain ⟨hd, hn, ho⟩ := md_dec C.2.2.2.2.2.2.2.2.2.2 hf
  subst hn
  exact lv_lmul C.1 C.2.1 hd  (k p e s m args below meth c H locs ls C hW hF hl)
theorem k_ldiv {n x0 y0 : Nat} {x y : Int64} (hf : md_f M pc = some (.ldiv, 1, n, x0, y0)) (hy : ¬ y = 0) (k : Ok g M R Z kc ks h n L (.long (x / y) :: st)) : Ok g M R Z kc ks h pc L (.long y :: .long x :: st) := by
  intro p e s m args below meth c H locs ls C hW hF hl
  obtain ⟨hd, hn, ho⟩ := md_dec C.2.2.2.2.2.2.2.2.2.2 hf
  subst hn
  exact lv_ldiv C.1 C.2.1 hd hy (k p e s m args below meth c H locs ls C hW hF hl)
theorem k_lrem {n x0 y0 : Nat} {x y : Int64} (hf : md_f M pc = some (.lrem, 1, n, x0, y0)) (hy : ¬ y = 0) (k : Ok g M R Z kc ks h n L (.long (x - x / y * y) :: st)) : Ok g M R Z kc ks h pc L (.long y :: .long x :: st) := by
  intro p e s m args below meth c H locs ls C hW hF hl
  obtain ⟨hd, hn, ho⟩ := md_dec C.2.2.2.2.2.2.2.2.2.2 hf
  subst hn
  exact lv_lrem C.1 C.2.1 hd hy (k p e s m args below meth c H locs ls C hW hF hl)
theorem k_i2l {n x0 y0 : Nat} {x : Int32} (hf : md_f M pc = some (.i2l, 1, n, x0, y0))  (k : Ok g M R Z kc ks h n L (.long x.toInt64 :: st)) : Ok g M R Z kc ks h pc L (.int x :: st) := by
  intro p e s m args below meth c H locs ls C hW hF hl
  obtain ⟨hd, hn, ho⟩ := md_dec C.2.2.2.2.2.2.2.2.2.2 hf
  subst hn
  exact lv_i2l C.1 C.2.1 hd rfl (k p e s m args below meth c H locs ls C hW hF hl)
theorem k_l2i {n x0 y0 : Nat} {x : Int64} (hf : md_f M pc = some (.l2i, 1, n, x0, y0))  (k : Ok g M R Z kc ks h n L (.int x.toInt32 :: st)) : Ok g M R Z kc ks h pc L (.long x :: st) := by
  intro p e s m args below meth c H locs ls C hW hF hl
  obtain ⟨hd, hn, ho⟩ := md_dec C.2.2.2.2.2.2.2.2.2.2 hf
  subst hn
  exact lv_l2i C.1 C.2.1 hd rfl (k p e s m args below meth c H locs ls C hW hF hl)
theorem k_lcmp {n x0 y0 : Nat} {x y : Int64} (hf : md_f M pc = some (.lcmp, 1, n, x0, y0))  (k : Ok g M R Z kc ks h n L (.int (lg_cmp x y) :: st)) : Ok g M R Z kc ks h pc L (.long y :: .long x :: st) := by
  intro p e s m args below meth c H locs ls C hW hF hl
  obtain ⟨hd, hn, ho⟩ := md_dec C.2.2.2.2.2.2.2.2.2.2 hf
  subst hn
  exact W.lcmp C.1 C.2.1 hd  (k p e s m args below meth c H locs ls C hW hF hl)
theorem k_ineg {n x0 y0 : Nat} {x : Int32} (hf : md_f M pc = some (.ineg, 1, n, x0, y0))  (k : Ok g M R Z kc ks h n L (.int (-x) :: st)) : Ok g M R Z kc ks h pc L (.int x :: st) := by
  intro p e s m args below meth c H locs ls C hW hF hl
  obtain ⟨hd, hn, ho⟩ := md_dec C.2.2.2.2.2.2.2.2.2.2 hf
  subst hn
  exact lv_ineg C.1 C.2.1 hd  (k p e s m args below meth c H locs ls C hW hF hl)
theorem k_lneg {n x0 y0 : Nat} {x : Int64} (hf : md_f M pc = some (.lneg, 1, n, x0, y0))  (k : Ok g M R Z kc ks h n L (.long (-x) :: st)) : Ok g M R Z kc ks h pc L (.long x :: st) := by
  intro p e s m args below meth c H locs ls C hW hF hl
  obtain ⟨hd, hn, ho⟩ := md_dec C.2.2.2.2.2.2.2.2.2.2 hf
  subst hn
  exact lv_lneg C.1 C.2.1 hd  (k p e s m args below meth c H locs ls C hW hF hl)
theorem k_dup {n x0 y0 : Nat} {a : Value} (hf : md_f M pc = some (.dup, 1, n, x0, y0)) (ha : a.category = 1) (k : Ok g M R Z kc ks h n L (a :: a :: st)) : Ok g M R Z kc ks h pc L (a :: st) := by
  intro p e s m args below meth c H locs ls C hW hF hl
  obtain ⟨hd, hn, ho⟩ := md_dec C.2.2.2.2.2.2.2.2.2.2 hf
  subst hn
  exact lv_dup C.1 C.2.1 hd ha (k p e s m args below meth c H locs ls C hW hF hl)
theorem k_pop {n x0 y0 : Nat} {a : Value} (hf : md_f M pc = some (.pop, 1, n, x0, y0)) (ha : a.category = 1) (k : Ok g M R Z kc ks h n L (st)) : Ok g M R Z kc ks h pc L (a :: st) := by
  intro p e s m args below meth c H locs ls C hW hF hl
  obtain ⟨hd, hn, ho⟩ := md_dec C.2.2.2.2.2.2.2.2.2.2 hf
  subst hn
  exact lv_pop C.1 C.2.1 hd ha (k p e s m args below meth c H locs ls C hW hF hl)
theorem k_dup2 {n x0 y0 : Nat} {a b : Value} (hf : md_f M pc = some (.dup2, 1, n, x0, y0)) (ha : a.category = 1) (hb : b.category = 1) (k : Ok g M R Z kc ks h n L (a :: b :: a :: b :: st)) : Ok g M R Z kc ks h pc L (a :: b :: st) := by
  intro p e s m args below meth c H locs ls C hW hF hl
  obtain ⟨hd, hn, ho⟩ := md_dec C.2.2.2.2.2.2.2.2.2.2 hf
  subst hn
  exact lv_dup2_11 C.1 C.2.1 hd ha hb (k p e s m args below meth c H locs ls C hW hF hl)
theorem k_dup_x1 {n x0 y0 : Nat} {a b : Value} (hf : md_f M pc = some (.dup_x1, 1, n, x0, y0)) (ha : a.category = 1) (hb : b.category = 1) (k : Ok g M R Z kc ks h n L (a :: b :: a :: st)) : Ok g M R Z kc ks h pc L (a :: b :: st) := by
  intro p e s m args below meth c H locs ls C hW hF hl
  obtain ⟨hd, hn, ho⟩ := md_dec C.2.2.2.2.2.2.2.2.2.2 hf
  subst hn
  exact lv_dup_x1 C.1 C.2.1 hd ha hb (k p e s m args below meth c H locs ls C hW hF hl)
theorem k_dup_x2 {n x0 y0 : Nat} {a b d : Value} (hf : md_f M pc = some (.dup_x2, 1, n, x0, y0)) (ha : a.category = 1) (hb : b.category = 1) (hc : d.category = 1) (k : Ok g M R Z kc ks h n L (a :: b :: d :: a :: st)) : Ok g M R Z kc ks h pc L (a :: b :: d :: st) := by
  intro p e s m args below meth c H locs ls C hW hF hl
  obtain ⟨hd, hn, ho⟩ := md_dec C.2.2.2.2.2.2.2.2.2.2 hf
  subst hn
  exact lv_dup_x2 C.1 C.2.1 hd ha hb hc (k p e s m args below meth c H locs ls C hW hF hl)
theorem k_dup2_2 {n x0 y0 : Nat} {a : Value} (hf : md_f M pc = some (.dup2, 1, n, x0, y0)) (ha : a.category = 2) (k : Ok g M R Z kc ks h n L (a :: a :: st)) : Ok g M R Z kc ks h pc L (a :: st) := by
  intro p e s m args below meth c H locs ls C hW hF hl
  obtain ⟨hd, hn, ho⟩ := md_dec C.2.2.2.2.2.2.2.2.2.2 hf
  subst hn
  exact lv_dup2_2 C.1 C.2.1 hd ha (k p e s m args below meth c H locs ls C hW hF hl)
theorem k_pop2_2 {n x0 y0 : Nat} {a : Value} (hf : md_f M pc = some (.pop2, 1, n, x0, y0)) (ha : a.category = 2) (k : Ok g M R Z kc ks h n L (st)) : Ok g M R Z kc ks h pc L (a :: st) := by
  intro p e s m args below meth c H locs ls C hW hF hl
  obtain ⟨hd, hn, ho⟩ := md_dec C.2.2.2.2.2.2.2.2.2.2 hf
  subst hn
  exact lv_pop2_2 C.1 C.2.1 hd ha (k p e s m args below meth c H locs ls C hW hF hl)
theorem k_icmp_eq {n x0 y0 : Nat} {o : Int} {x y : Int32} (hf : md_f M pc = some (.if_icmp .eq o, 3, n, x0, y0)) (kt : x = y → Ok g M R Z kc ks h x0 L st) (kf : ¬ (x = y) → Ok g M R Z kc ks h n L st) : Ok g M R Z kc ks h pc L (.int y :: .int x :: st) := by
  intro p e s m args below meth c H locs ls C hW hF hl
  obtain ⟨hd, hn, ho⟩ := md_dec C.2.2.2.2.2.2.2.2.2.2 hf
  subst hn
  exact lv_icmp_eq C.1 C.2.1 hd (ho _ rfl) (fun q => kt q p e s m args below meth c H locs ls C hW hF hl) (fun q => kf q p e s m args below meth c H locs ls C hW hF hl)
theorem k_if_eq {n x0 y0 : Nat} {o : Int} {x : Int32} (hf : md_f M pc = some (.ifCond .eq o, 3, n, x0, y0)) (kt : x = 0 → Ok g M R Z kc ks h x0 L st) (kf : ¬ (x = 0) → Ok g M R Z kc ks h n L st) : Ok g M R Z kc ks h pc L (.int x :: st) := by
  intro p e s m args below meth c H locs ls C hW hF hl
  obtain ⟨hd, hn, ho⟩ := md_dec C.2.2.2.2.2.2.2.2.2.2 hf
  subst hn
  exact lv_if_eq C.1 C.2.1 hd (ho _ rfl) (fun q => kt q p e s m args below meth c H locs ls C hW hF hl) (fun q => kf q p e s m args below meth c H locs ls C hW hF hl)
theorem k_icmp_ne {n x0 y0 : Nat} {o : Int} {x y : Int32} (hf : md_f M pc = some (.if_icmp .ne o, 3, n, x0, y0)) (kt : ¬ x = y → Ok g M R Z kc ks h x0 L st) (kf : x = y → Ok g M R Z kc ks h n L st) : Ok g M R Z kc ks h pc L (.int y :: .int x :: st) := by
  intro p e s m args below meth c H locs ls C hW hF hl
  obtain ⟨hd, hn, ho⟩ := md_dec C.2.2.2.2.2.2.2.2.2.2 hf
  subst hn
  exact lv_icmp_ne C.1 C.2.1 hd (ho _ rfl) (fun q => kt q p e s m args below meth c H locs ls C hW hF hl) (fun q => kf q p e s m args below meth c H locs ls C hW hF hl)
theorem k_if_ne {n x0 y0 : Nat} {o : Int} {x : Int32} (hf : md_f M pc = some (.ifCond .ne o, 3, n, x0, y0)) (kt : ¬ x = 0 → Ok g M R Z kc ks h x0 L st) (kf : x = 0 → Ok g M R Z kc ks h n L st) : Ok g M R Z kc ks h pc L (.int x :: st) := by
  intro p e s m args below meth c H locs ls C hW hF hl
  obtain ⟨hd, hn, ho⟩ := md_dec C.2.2.2.2.2.2.2.2.2.2 hf
  subst hn
  exact lv_if_ne C.1 C.2.1 hd (ho _ rfl) (fun q => kt q p e s m args below meth c H locs ls C hW hF hl) (fun q => kf q p e s m args below meth c H locs ls C hW hF hl)
theorem k_icmp_lt {n x0 y0 : Nat} {o : Int} {x y : Int32} (hf : md_f M pc = some (.if_icmp .lt o, 3, n, x0, y0)) (kt : x < y → Ok g M R Z kc ks h x0 L st) (kf : ¬ (x < y) → Ok g M R Z kc ks h n L st) : Ok g M R Z kc ks h pc L (.int y :: .int x :: st) := by
  intro p e s m args below meth c H locs ls C hW hF hl
  obtain ⟨hd, hn, ho⟩ := md_dec C.2.2.2.2.2.2.2.2.2.2 hf
  subst hn
  exact lv_icmp_lt C.1 C.2.1 hd (ho _ rfl) (fun q => kt q p e s m args below meth c H locs ls C hW hF hl) (fun q => kf q p e s m args below meth c H locs ls C hW hF hl)
theorem k_if_lt {n x0 y0 : Nat} {o : Int} {x : Int32} (hf : md_f M pc = some (.ifCond .lt o, 3, n, x0, y0)) (kt : x < 0 → Ok g M R Z kc ks h x0 L st) (kf : ¬ (x < 0) → Ok g M R Z kc ks h n L st) : Ok g M R Z kc ks h pc L (.int x :: st) := by
  intro p e s m args below meth c H locs ls C hW hF hl
  obtain ⟨hd, hn, ho⟩ := md_dec C.2.2.2.2.2.2.2.2.2.2 hf
  subst hn
  exact lv_if_lt C.1 C.2.1 hd (ho _ rfl) (fun q => kt q p e s m args below meth c H locs ls C hW hF hl) (fun q => kf q p e s m args below meth c H locs ls C hW hF hl)
theorem k_icmp_ge {n x0 y0 : Nat} {o : Int} {x y : Int32} (hf : md_f M pc = some (.if_icmp .ge o, 3, n, x0, y0)) (kt : y ≤ x → Ok g M R Z kc ks h x0 L st) (kf : ¬ (y ≤ x) → Ok g M R Z kc ks h n L st) : Ok g M R Z kc ks h pc L (.int y :: .int x :: st) := by
  intro p e s m args below meth c H locs ls C hW hF hl
  obtain ⟨hd, hn, ho⟩ := md_dec C.2.2.2.2.2.2.2.2.2.2 hf
  subst hn
  exact lv_icmp_ge C.1 C.2.1 hd (ho _ rfl) (fun q => kt q p e s m args below meth c H locs ls C hW hF hl) (fun q => kf q p e s m args below meth c H locs ls C hW hF hl)
theorem k_if_ge {n x0 y0 : Nat} {o : Int} {x : Int32} (hf : md_f M pc = some (.ifCond .ge o, 3, n, x0, y0)) (kt : 0 ≤ x → Ok g M R Z kc ks h x0 L st) (kf : ¬ (0 ≤ x) → Ok g M R Z kc ks h n L st) : Ok g M R Z kc ks h pc L (.int x :: st) := by
  intro p e s m args below meth c H locs ls C hW hF hl
  obtain ⟨hd, hn, ho⟩ := md_dec C.2.2.2.2.2.2.2.2.2.2 hf
  subst hn
  exact lv_if_ge C.1 C.2.1 hd (ho _ rfl) (fun q => kt q p e s m args below meth c H locs ls C hW hF hl) (fun q => kf q p e s m args below meth c H locs ls C hW hF hl)
theorem k_icmp_gt {n x0 y0 : Nat} {o : Int} {x y : Int32} (hf : md_f M pc = some (.if_icmp .gt o, 3, n, x0, y0)) (kt : y < x → Ok g M R Z kc ks h x0 L st) (kf : ¬ (y < x) → Ok g M R Z kc ks h n L st) : Ok g M R Z kc ks h pc L (.int y :: .int x :: st) := by
  intro p e s m args below meth c H locs ls C hW hF hl
  obtain ⟨hd, hn, ho⟩ := md_dec C.2.2.2.2.2.2.2.2.2.2 hf
  subst hn
  exact lv_icmp_gt C.1 C.2.1 hd (ho _ rfl) (fun q => kt q p e s m args below meth c H locs ls C hW hF hl) (fun q => kf q p e s m args below meth c H locs ls C hW hF hl)
theorem k_if_gt {n x0 y0 : Nat} {o : Int} {x : Int32} (hf : md_f M pc = some (.ifCond .gt o, 3, n, x0, y0)) (kt : 0 < x → Ok g M R Z kc ks h x0 L st) (kf : ¬ (0 < x) → Ok g M R Z kc ks h n L st) : Ok g M R Z kc ks h pc L (.int x :: st) := by
  intro p e s m args below meth c H locs ls C hW hF hl
  obtain ⟨hd, hn, ho⟩ := md_dec C.2.2.2.2.2.2.2.2.2.2 hf
  subst hn
  exact lv_if_gt C.1 C.2.1 hd (ho _ rfl) (fun q => kt q p e s m args below meth c H locs ls C hW hF hl) (fun q => kf q p e s m args below meth c H locs ls C hW hF hl)
theorem k_icmp_le {n x0 y0 : Nat} {o : Int} {x y : Int32} (hf : md_f M pc = some (.if_icmp .le o, 3, n, x0, y0)) (kt : x ≤ y → Ok g M R Z kc ks h x0 L st) (kf : ¬ (x ≤ y) → Ok g M R Z kc ks h n L st) : Ok g M R Z kc ks h pc L (.int y :: .int x :: st) := by
  intro p e s m args below meth c H locs ls C hW hF hl
  obtain ⟨hd, hn, ho⟩ := md_dec C.2.2.2.2.2.2.2.2.2.2 hf
  subst hn
  exact lv_icmp_le C.1 C.2.1 hd (ho _ rfl) (fun q => kt q p e s m args below meth c H locs ls C hW hF hl) (fun q => kf q p e s m args below meth c H locs ls C hW hF hl)
theorem k_if_le {n x0 y0 : Nat} {o : Int} {x : Int32} (hf : md_f M pc = some (.ifCond .le o, 3, n, x0, y0)) (kt : x ≤ 0 → Ok g M R Z kc ks h x0 L st) (kf : ¬ (x ≤ 0) → Ok g M R Z kc ks h n L st) : Ok g M R Z kc ks h pc L (.int x :: st) := by
  intro p e s m args below meth c H locs ls C hW hF hl
  obtain ⟨hd, hn, ho⟩ := md_dec C.2.2.2.2.2.2.2.2.2.2 hf
  subst hn
  exact lv_if_le C.1 C.2.1 hd (ho _ rfl) (fun q => kt q p e s m args below meth c H locs ls C hW hF hl) (fun q => kf q p e s m args below meth c H locs ls C hW hF hl)
theorem k_goto {n x0 y0 : Nat} {o : Int} (hf : md_f M pc = some (.goto o, 3, n, x0, y0)) (k : Ok g M R Z kc ks h x0 L st) : Ok g M R Z kc ks h pc L st := by
  intro p e s m args below meth c H locs ls C hW hF hl
  obtain ⟨hd, hn, ho⟩ := md_dec C.2.2.2.2.2.2.2.2.2.2 hf
  subst hn
  exact lv_goto C.1 C.2.1 hd (ho _ rfl) (k p e s m args below meth c H locs ls C hW hF hl)
end ROWS
end
section
/-! fields, arrays, new cells, answers, calls -/
def isO (g : Gx) (h : Hp) (a c : Nat) : Prop := gx_B g ≤ a ∧ a < hp_n h ∧ hp_k h a = .inl c
def isA (g : Gx) (h : Hp) (a t len : Nat) : Prop := gx_B g ≤ a ∧ a < hp_n h ∧ hp_k h a = .inr t ∧ hp_l h a = len
theorem Wd_O {g : Gx} {h : Hp} {H : Heap} {a c : Nat} (x : Wd g h H) (o : isO g h a c) : ∃ r : vw_C, sg_cl[c]? = some r ∧ t_OB a (g.2.1 c) r.2.2 (g.2.2.1 c) H (fun k => hp_fv h (sg_ft c k) a k) := by
  have y := x.2.2.2 a o.1 o.2.1
  unfold hp_at at y
  rw [o.2.2] at y
  exact y
theorem Wd_A {g : Gx} {h : Hp} {H : Heap} {a t len : Nat} (x : Wd g h H) (o : isA g h a t len) : H[a]? = some (arrV (g.2.2.2.1 t) len (fun j => hp_fv h (sg_at t) a j)) := by
  have y := x.2.2.2 a o.1 o.2.1
  unfold hp_at at y
  rw [o.2.2.1, o.2.2.2] at y
  exact y
def sg_fin (ci k : Nat) : Bool := match sg_cl[ci]? with
  | some r => (r.2.1 k).2.2.2
  | none => false
def sg_T (ci k : Nat) : String × String × String × Bool := match sg_cl[ci]? with
  | some r => r.2.1 k
  | none => ("", "", "", false)
def sg_C (ci : Nat) : String := match sg_cl[ci]? with
  | some r => r.1
  | none => ""
def sg_N (ci : Nat) : Nat := match sg_cl[ci]? with
  | some r => r.2.2
  | none => 0
section ROWS2
variable {g : Gx} {M : Md} {R : Room} {Z : Zx} {kc ks : Nat} {h : Hp} {pc : Nat} {L : List (Option Value)} {st : List Value}
theorem k_get {n idx ci k a : Nat} (hf : md_f M pc = some (.getfield idx, 3, n, ci, k)) (ho : isO g h a ci) (kk : Ok g M R Z kc ks h n L (hp_fv h (sg_ft ci k) a k :: st)) : Ok g M R Z kc ks h pc L (.ref a :: st) := by
  intro p e s m args below meth c H locs ls C hW hF hl
  obtain ⟨hd, hn, -⟩ := md_dec C.2.2.2.2.2.2.2.2.2.2 hf
  subst hn
  obtain ⟨r, hr, cell, q1, q2, q3, q4⟩ := Wd_O hW ho
  obtain ⟨hin, hty, hnm⟩ := sg_cl_ok ci r hr
  obtain ⟨hS, hfc, kC, hkC, hkind⟩ := C.2.2.2.2.2.2.2.1.1.1 ci r hr
  obtain ⟨r', hr', hkN, hlk⟩ := md_get C.2.2.2.2.2.2.2.2.2.2 hf
  cases (Option.some.inj (hr.symm.trans hr'))
  obtain ⟨cf, kf, fi, f, hi, hsl⟩ := hS k hkN
  have hst := (u_facts hfc hkC (u_lays C.2.2.2.2.2.1 hin hkN) hi).1
  have hv : cell.slots[f.slot]? = some (hp_fv h (sg_ft ci k) a k) := by rw [hsl]; exact q4 k hkN
  rcases hlk with hlk | hlk
  · exact W.getf C.1 C.2.1 C.2.2.2.2.1 (C.2.2.2.2.2.1 _ hlk) hi hst q1 (by rw [q3]; exact fun z => by cases z) hv rfl rfl hd (kk p e s m args below meth c H locs ls C hW hF hl)
  · exact va_Wgetf C.1 C.2.1 C.2.2.2.2.1 (va_Nw.use rfl (C.2.2.2.2.2.2.2.1.2.1 _ hlk)) hi hst q1 (by rw [q3]; exact fun z => by cases z) hv rfl rfl hd (kk p e s m args below meth c H locs ls C hW hF hl)
theorem k_getI {n idx ci k a : Nat} (hf : md_f M pc = some (.getfield idx, 3, n, ci, k)) (ht : ty_I (sg_ft ci k) = true) (ho : isO g h a ci) (kk : Ok g M R Z kc ks h n L (.int (hp_i h a k) :: st)) : Ok g M R Z kc ks h pc L (.ref a :: st) :=
  k_get hf ho (by rw [hp_fv_I ht]; exact kk)
theorem k_getL {n idx ci k a : Nat} (hf : md_f M pc = some (.getfield idx, 3, n, ci, k)) (ht : sg_ft ci k = .long) (ho : isO g h a ci) (kk : Ok g M R Z kc ks h n L (.long (hp_j h a k) :: st)) : Ok g M R Z kc ks h pc L (.ref a :: st) :=
  k_get hf ho (by rw [ht]; exact kk)
theorem k_getR {n idx ci k a q : Nat} (hf : md_f M pc = some (.getfield idx, 3, n, ci, k)) (ht : ty_R (sg_ft ci k) = true) (ho : isO g h a ci) (hq : hp_r h a k = some q) (kk : Ok g M R Z kc ks h n L (.ref q :: st)) : Ok g M R Z kc ks h pc L (.ref a :: st) :=
  k_get hf ho (by rw [hp_fv_R ht, hq]; exact kk)
set_option maxHeartbeats 1000000 in
theorem k_put {n idx ci k a : Nat} {v : Value} {h1 : Hp} (hf : md_f M pc = some (.putfield idx, 3, n, ci, k)) (hfin : sg_fin ci k = false) (ho : isO g h a ci) (hna : narrow (sg_ft ci k) v = v) (hfit : fits (sg_ft ci k) v = true)
    (en : hp_n h1 = hp_n h) (ek : hp_k h1 = hp_k h) (el : hp_l h1 = hp_l h) (eo : ∀ q, q ≠ a → ∀ ty j, hp_fv h1 ty q j = hp_fv h ty q j) (ea : ∀ j, updV (fun k => hp_fv h (sg_ft ci k) a k) k v j = hp_fv h1 (sg_ft ci j) a j)
    (kk : Ok g M R Z kc ks h1 n L st) : Ok g M R Z kc ks h pc L (v :: .ref a :: st) := by
  intro p e s m args below meth c H locs ls C hW hF hl
  obtain ⟨hd, hn, -⟩ := md_dec C.2.2.2.2.2.2.2.2.2.2 hf
  subst hn
  obtain ⟨r, hr, cell, q1, q2, q3, q4⟩ := Wd_O hW ho
  obtain ⟨hin, hty, hnm⟩ := sg_cl_ok ci r hr
  have hap := va_apart (own := r.1) C.2.2.2.2.2.1 hin (sg_ft ci) hty hnm C.2.2.2.2.2.2.2.1.1 hr
  obtain ⟨hS, hfc, kC, hkC, hkind⟩ := C.2.2.2.2.2.2.2.1.1.1 ci r hr
  unfold sg_fin at hfin
  rw [hr] at hfin
  simp only at hfin
  obtain ⟨r', hr', hkN, hlk⟩ := md_put C.2.2.2.2.2.2.2.2.2.2 hf
  cases (Option.some.inj (hr.symm.trans hr'))
  obtain ⟨cf, kf, fi, f, hi, hsl⟩ := hS k hkN
  have hst := (u_facts hfc hkC (u_lays C.2.2.2.2.2.1 hin hkN) hi).1
  have hlay := C.2.2.2.2.2.1 _ (hin _ (u_in_lay hkN))
  unfold u_lay at hlay
  rw [if_neg (by rw [hfin]; decide)] at hlay
  have h6 := u_store hfc hkC hkind hlay hi (hty k hkN) hna hfit
  have fin : ∀ H1 : Heap, H1[a]? = some (cell.setSlot f.slot v) → H1.size = H.size → (∀ q, q ≠ a → H1[q]? = H[q]?) → W p (gx_l g) e R s m args below meth c H1 (locs ++ [⟨a, f.slot⟩]) kc ks (Z below args s) (F0 m (pc + 3) ls st) := by
    intro H1 e1 e2 e3
    rw [hsl] at e1
    refine kk p e s m args below meth c H1 _ ls C (Wd_set hW ho.1 e2 en e3 ?_ ek el eo) (fun q hq => ?_) hl
    · unfold hp_at
      rw [ek, ho.2.2]
      exact ⟨r, hr, t_OB.to (V := updV (fun k => hp_fv h (sg_ft ci k) a k) k v) ⟨_, e1, q2, q3, t_set q4 hap hkN v⟩ (fun j _ => ea j)⟩
    · rcases List.mem_append.mp hq with z | z
      · exact hF q z
      · rw [List.mem_singleton.mp z]; exact ho.1
  rcases hlk with hlk | hlk
  · exact W.putK C.1 C.2.1 (f := f) ⟨C.2.2.2.2.1, C.2.2.2.2.2.1 _ hlk, ⟨_, _, _, hi⟩, hst⟩ (by rw [q2]; exact h6) q1 q3 (by rw [hsl]; exact k2_hasslot (q4 k hkN)) rfl rfl hd fin
  · exact va_WputK C.1 C.2.1 (f := f) C.2.2.2.2.1 (va_Nw.use rfl (C.2.2.2.2.2.2.2.1.2.1 _ hlk)) hi hst (by rw [q2]; exact h6) q1 q3 (by rw [hsl]; exact k2_hasslot (q4 k hkN)) rfl rfl hd fin
set_option maxHeartbeats 1000000 in
theorem k_putF {n idx ci k a : Nat} {v : Value} {h1 : Hp} (hf : md_f M pc = some (.putfield idx, 3, n, ci, k)) (hlk : Cond.fieldLink (md_y M).cls idx (sg_T ci k).1 (sg_T ci k).2.1 (sg_T ci k).2.2.1 ∈ sg_tbl) (hfin : sg_fin ci k = true) (hini : (md_y M).name = "<init>") (hdecl : (sg_T ci k).1 = (md_y M).cls) (ho : isO g h a ci) (hna : narrow (sg_ft ci k) v = v) (hfit : fits (sg_ft ci k) v = true)
    (en : hp_n h1 = hp_n h) (ek : hp_k h1 = hp_k h) (el : hp_l h1 = hp_l h) (eo : ∀ q, q ≠ a → ∀ ty j, hp_fv h1 ty q j = hp_fv h ty q j) (ea : ∀ j, updV (fun k => hp_fv h (sg_ft ci k) a k) k v j = hp_fv h1 (sg_ft ci j) a j)
    (kk : Ok g M R Z kc ks h1 n L st) : Ok g M R Z kc ks h pc L (v :: .ref a :: st) := by
  intro p e s m args below meth c H locs ls C hW hF hl
  obtain ⟨hd, hn, -⟩ := md_dec C.2.2.2.2.2.2.2.2.2.2 hf
  subst hn
  obtain ⟨r, hr, cell, q1, q2, q3, q4⟩ := Wd_O hW ho
  obtain ⟨hin, hty, hnm⟩ := sg_cl_ok ci r hr
  have hap := va_apart (own := r.1) C.2.2.2.2.2.1 hin (sg_ft ci) hty hnm C.2.2.2.2.2.2.2.1.1 hr
  obtain ⟨hS, hfc, kC, hkC, hkind⟩ := C.2.2.2.2.2.2.2.1.1.1 ci r hr
  unfold sg_fin at hfin
  unfold sg_T at hlk hdecl
  rw [hr] at hfin hlk hdecl
  simp only at hfin hlk hdecl
  obtain ⟨r', hr', hkN, -⟩ := md_put C.2.2.2.2.2.2.2.2.2.2 hf
  cases (Option.some.inj (hr.symm.trans hr'))
  obtain ⟨cf, kf, fi, f, hi, hsl⟩ := hS k hkN
  have hst := (u_facts hfc hkC (u_lays C.2.2.2.2.2.1 hin hkN) hi).1
  have hlay := C.2.2.2.2.2.1 _ (hin _ (u_in_lay hkN))
  unfold u_lay at hlay
  rw [if_pos hfin] at hlay
  have hcf : m.cls = cf := by
    obtain ⟨_, _, c', _, _, _, -, -, hf', -, -, -, hown2, -⟩ := Cond.laysFinal_spec hlay
    have e1 : c' = cf := by have := hi.symm.trans hf'; simp at this; exact this.1.symm
    rw [hdecl] at hown2
    rw [← e1]; exact Option.some.inj (C.2.2.2.2.1.symm.trans hown2)
  have h6 := u_fits hfc hkC hkind (Or.inr hlay) hi (hty k hkN) hna hfit
  have fin : ∀ H1 : Heap, H1[a]? = some (cell.setSlot f.slot v) → H1.size = H.size → (∀ q, q ≠ a → H1[q]? = H[q]?) → W p (gx_l g) e R s m args below meth c H1 (locs ++ [⟨a, f.slot⟩]) kc ks (Z below args s) (F0 m (pc + 3) ls st) := by
    intro H1 e1 e2 e3
    rw [hsl] at e1
    refine kk p e s m args below meth c H1 _ ls C (Wd_set hW ho.1 e2 en e3 ?_ ek el eo) (fun q hq => ?_) hl
    · unfold hp_at
      rw [ek, ho.2.2]
      exact ⟨r, hr, t_OB.to (V := updV (fun k => hp_fv h (sg_ft ci k) a k) k v) ⟨_, e1, q2, q3, t_set q4 hap hkN v⟩ (fun j _ => ea j)⟩
    · rcases List.mem_append.mp hq with z | z
      · exact hF q z
      · rw [List.mem_singleton.mp z]; exact ho.1
  exact W.putFinK C.1 C.2.1 C.2.2.2.2.1 (C.2.2.2.2.2.1 _ hlk) hi hst hcf (C.2.2.2.2.2.2.2.2.1.trans hini) (by rw [q2]; exact h6) q1 q3 (by rw [hsl]; exact k2_hasslot (q4 k hkN)) rfl rfl hd fin
theorem ea_I {ci k a : Nat} {x : Int32} (ht : sg_ft ci k = .int) : ∀ j, updV (fun k => hp_fv h (sg_ft ci k) a k) k (.int x) j = hp_fv (hp_ui h a k x) (sg_ft ci j) a j := by
  intro j
  by_cases e : j = k
  · subst e
    simp only [updV, if_true]
    exact (by rw [ht]; show _ = Value.int (up2 _ a j _ a j); rw [up2_s])
  · simp only [updV, if_neg e]
    exact (hp_fv_ui (Or.inr e)).symm
theorem k_putI {n idx ci k a : Nat} {x : Int32} (hf : md_f M pc = some (.putfield idx, 3, n, ci, k)) (ht : sg_ft ci k = .int) (hfin : sg_fin ci k = false) (ho : isO g h a ci) (kk : Ok g M R Z kc ks (hp_ui h a k x) n L st) : Ok g M R Z kc ks h pc L (.int x :: .ref a :: st) :=
  k_put (h1 := hp_ui h a k x) hf hfin ho (by rw [ht]; rfl) (by rw [ht]; rfl) rfl rfl rfl (fun q hq ty j => hp_fv_ui (Or.inl hq)) (ea_I ht) kk
theorem k_putFI {n idx ci k a : Nat} {x : Int32} (hf : md_f M pc = some (.putfield idx, 3, n, ci, k)) (ht : sg_ft ci k = .int) (hlk : Cond.fieldLink (md_y M).cls idx (sg_T ci k).1 (sg_T ci k).2.1 (sg_T ci k).2.2.1 ∈ sg_tbl) (hfin : sg_fin ci k = true) (hini : (md_y M).name = "<init>") (hdecl : (sg_T ci k).1 = (md_y M).cls) (ho : isO g h a ci) (kk : Ok g M R Z kc ks (hp_ui h a k x) n L st) : Ok g M R Z kc ks h pc L (.int x :: .ref a :: st) :=
  k_putF (h1 := hp_ui h a k x) hf hlk hfin hini hdecl ho (by rw [ht]; rfl) (by rw [ht]; rfl) rfl rfl rfl (fun q hq ty j => hp_fv_ui (Or.inl hq)) (ea_I ht) kk
theorem ea_L {ci k a : Nat} {x : Int64} (ht : sg_ft ci k = .long) : ∀ j, updV (fun k => hp_fv h (sg_ft ci k) a k) k (.long x) j = hp_fv (hp_uj h a k x) (sg_ft ci j) a j := by
  intro j
  by_cases e : j = k
  · subst e
    simp only [updV, if_true]
    exact (by rw [ht]; show _ = Value.long (up2 _ a j _ a j); rw [up2_s])
  · simp only [updV, if_neg e]
    exact (hp_fv_uj (Or.inr e)).symm
theorem k_putL {n idx ci k a : Nat} {x : Int64} (hf : md_f M pc = some (.putfield idx, 3, n, ci, k)) (ht : sg_ft ci k = .long) (hfin : sg_fin ci k = false) (ho : isO g h a ci) (kk : Ok g M R Z kc ks (hp_uj h a k x) n L st) : Ok g M R Z kc ks h pc L (.long x :: .ref a :: st) :=
  k_put (h1 := hp_uj h a k x) hf hfin ho (by rw [ht]; rfl) (by rw [ht]; rfl) rfl rfl rfl (fun q hq ty j => hp_fv_uj (Or.inl hq)) (ea_L ht) kk
theorem k_putFL {n idx ci k a : Nat} {x : Int64} (hf : md_f M pc = some (.putfield idx, 3, n, ci, k)) (ht : sg_ft ci k = .long) (hlk : Cond.fieldLink (md_y M).cls idx (sg_T ci k).1 (sg_T ci k).2.1 (sg_T ci k).2.2.1 ∈ sg_tbl) (hfin : sg_fin ci k = true) (hini : (md_y M).name = "<init>") (hdecl : (sg_T ci k).1 = (md_y M).cls) (ho : isO g h a ci) (kk : Ok g M R Z kc ks (hp_uj h a k x) n L st) : Ok g M R Z kc ks h pc L (.long x :: .ref a :: st) :=
  k_putF (h1 := hp_uj h a k x) hf hlk hfin hini hdecl ho (by rw [ht]; rfl) (by rw [ht]; rfl) rfl rfl rfl (fun q hq ty j => hp_fv_uj (Or.inl hq)) (ea_L ht) kk
theorem ea_R {ci k a : Nat} {x : Nat} (ht : ty_R (sg_ft ci k) = true) : ∀ j, updV (fun k => hp_fv h (sg_ft ci k) a k) k (.ref x) j = hp_fv (hp_ur h a k (some x)) (sg_ft ci j) a j := by
  intro j
  by_cases e : j = k
  · subst e
    simp only [updV, if_true]
    exact (by rw [hp_fv_R ht]; show _ = va_rf (up2 _ a j _ a j); rw [up2_s]; rfl)
  · simp only [updV, if_neg e]
    exact (hp_fv_ur (Or.inr e)).symm
theorem k_putR {n idx ci k a : Nat} {x : Nat} (hf : md_f M pc = some (.putfield idx, 3, n, ci, k)) (ht : ty_R (sg_ft ci k) = true) (hfin : sg_fin ci k = false) (ho : isO g h a ci) (kk : Ok g M R Z kc ks (hp_ur h a k (some x)) n L st) : Ok g M R Z kc ks h pc L (.ref x :: .ref a :: st) :=
  k_put (h1 := hp_ur h a k (some x)) hf hfin ho (by cases hq : sg_ft ci k <;> rw [hq] at ht <;> first | rfl | cases ht) (by cases hq : sg_ft ci k <;> rw [hq] at ht <;> first | rfl | cases ht) rfl rfl rfl (fun q hq ty j => hp_fv_ur (Or.inl hq)) (ea_R ht) kk
theorem k_putFR {n idx ci k a : Nat} {x : Nat} (hf : md_f M pc = some (.putfield idx, 3, n, ci, k)) (ht : ty_R (sg_ft ci k) = true) (hlk : Cond.fieldLink (md_y M).cls idx (sg_T ci k).1 (sg_T ci k).2.1 (sg_T ci k).2.2.1 ∈ sg_tbl) (hfin : sg_fin ci k = true) (hini : (md_y M).name = "<init>") (hdecl : (sg_T ci k).1 = (md_y M).cls) (ho : isO g h a ci) (kk : Ok g M R Z kc ks (hp_ur h a k (some x)) n L st) : Ok g M R Z kc ks h pc L (.ref x :: .ref a :: st) :=
  k_putF (h1 := hp_ur h a k (some x)) hf hlk hfin hini hdecl ho (by cases hq : sg_ft ci k <;> rw [hq] at ht <;> first | rfl | cases ht) (by cases hq : sg_ft ci k <;> rw [hq] at ht <;> first | rfl | cases ht) rfl rfl rfl (fun q hq ty j => hp_fv_ur (Or.inl hq)) (ea_R ht) kk
theorem ix_in {i : Int32} {j len : Nat} (e : i = nI j) (hj : j < len) (hl : len < 2147483648) : ¬ (i < 0 ∨ len ≤ i.toNatClampNeg) := by
  subst e; exact nI_in hj hl
theorem ix_cl {i : Int32} {j len : Nat} (e : i = nI j) (hj : j < len) (hl : len < 2147483648) : i.toNatClampNeg = j := by
  subst e; exact nI_clamp (Nat.lt_trans hj hl)
theorem k_iald {n x0 y0 t a len j : Nat} {i : Int32} (hf : md_f M pc = some (.iaload, 1, n, x0, y0)) (ho : isA g h a t len) (ht : sg_at t = .int) (hta : t < sg_na) (hi : i = nI j) (hj : j < len) (hlen : len < 2147483648) (kk : Ok g M R Z kc ks h n L (.int (hp_i h a j) :: st)) : Ok g M R Z kc ks h pc L (.int i :: .ref a :: st) := by
  intro p e s m args below meth c H locs ls C hW hF hl
  obtain ⟨hd, hn, -⟩ := md_dec C.2.2.2.2.2.2.2.2.2.2 hf
  subst hn
  have hA := Wd_A hW ho
  have hty := (C.2.2.2.2.2.2.2.1.1.2 t _ (tb_get hta)).1 len (fun j => hp_fv h (sg_at t) a j)
  have hc := ix_cl hi hj hlen
  refine W.iald (v := .int (hp_i h a j)) C.1 C.2.1 hA (by rw [ht] at hty ⊢; exact hty) (fun q => by cases q) (by show ¬ (i < 0 ∨ (arrV _ _ _).slots.size ≤ _); rw [arrV_size]; exact ix_in hi hj hlen) (by rw [hc, arrV_read _ _ hj, ht]; rfl) rfl rfl hd (kk p e s m args below meth c H locs ls C hW hF hl)
theorem k_zald {n x0 y0 t a len j : Nat} {i : Int32} (hf : md_f M pc = some (.baload, 1, n, x0, y0)) (ho : isA g h a t len) (ht : sg_at t = .boolean) (hta : t < sg_na) (hi : i = nI j) (hj : j < len) (hlen : len < 2147483648) (kk : Ok g M R Z kc ks h n L (.int (hp_i h a j) :: st)) : Ok g M R Z kc ks h pc L (.int i :: .ref a :: st) := by
  intro p e s m args below meth c H locs ls C hW hF hl
  obtain ⟨hd, hn, -⟩ := md_dec C.2.2.2.2.2.2.2.2.2.2 hf
  subst hn
  have hA := Wd_A hW ho
  have hty := (C.2.2.2.2.2.2.2.1.1.2 t _ (tb_get hta)).1 len (fun j => hp_fv h (sg_at t) a j)
  have hc := ix_cl hi hj hlen
  refine W.zald (v := .int (hp_i h a j)) C.1 C.2.1 hA (by rw [ht] at hty ⊢; exact hty) (fun q => by cases q) (by show ¬ (i < 0 ∨ (arrV _ _ _).slots.size ≤ _); rw [arrV_size]; exact ix_in hi hj hlen) (by rw [hc, arrV_read _ _ hj, ht]; rfl) rfl rfl hd (kk p e s m args below meth c H locs ls C hW hF hl)
theorem k_bald {n x0 y0 t a len j : Nat} {i : Int32} (hf : md_f M pc = some (.baload, 1, n, x0, y0)) (ho : isA g h a t len) (ht : sg_at t = .byte) (hta : t < sg_na) (hi : i = nI j) (hj : j < len) (hlen : len < 2147483648) (kk : Ok g M R Z kc ks h n L (.int (hp_i h a j) :: st)) : Ok g M R Z kc ks h pc L (.int i :: .ref a :: st) := by
  intro p e s m args below meth c H locs ls C hW hF hl
  obtain ⟨hd, hn, -⟩ := md_dec C.2.2.2.2.2.2.2.2.2.2 hf
  subst hn
  have hA := Wd_A hW ho
  have hty := (C.2.2.2.2.2.2.2.1.1.2 t _ (tb_get hta)).1 len (fun j => hp_fv h (sg_at t) a j)
  have hc := ix_cl hi hj hlen
  refine W.bald (v := .int (hp_i h a j)) C.1 C.2.1 hA (by rw [ht] at hty ⊢; exact hty) (fun q => by cases q) (by show ¬ (i < 0 ∨ (arrV _ _ _).slots.size ≤ _); rw [arrV_size]; exact ix_in hi hj hlen) (by rw [hc, arrV_read _ _ hj, ht]; rfl) rfl rfl hd (kk p e s m args below meth c H locs ls C hW hF hl)
theorem k_lald {n x0 y0 t a len j : Nat} {i : Int32} (hf : md_f M pc = some (.laload, 1, n, x0, y0)) (ho : isA g h a t len) (ht : sg_at t = .long) (hta : t < sg_na) (hi : i = nI j) (hj : j < len) (hlen : len < 2147483648) (kk : Ok g M R Z kc ks h n L (.long (hp_j h a j) :: st)) : Ok g M R Z kc ks h pc L (.int i :: .ref a :: st) := by
  intro p e s m args below meth c H locs ls C hW hF hl
  obtain ⟨hd, hn, -⟩ := md_dec C.2.2.2.2.2.2.2.2.2.2 hf
  subst hn
  have hA := Wd_A hW ho
  have hty := (C.2.2.2.2.2.2.2.1.1.2 t _ (tb_get hta)).1 len (fun j => hp_fv h (sg_at t) a j)
  have hc := ix_cl hi hj hlen
  refine W.lald (v := .long (hp_j h a j)) C.1 C.2.1 hA (by rw [ht] at hty ⊢; exact hty) (fun q => by cases q) (by show ¬ (i < 0 ∨ (arrV _ _ _).slots.size ≤ _); rw [arrV_size]; exact ix_in hi hj hlen) (by rw [hc, arrV_read _ _ hj, ht]; rfl) rfl rfl hd (kk p e s m args below meth c H locs ls C hW hF hl)
theorem k_aald {n x0 y0 t a len j q : Nat} {i : Int32} (hf : md_f M pc = some (.aaload, 1, n, x0, y0)) (ho : isA g h a t len) (ht : ty_R (sg_at t) = true) (hta : t < sg_na) (hi : i = nI j) (hj : j < len) (hlen : len < 2147483648) (hq : hp_r h a j = some q) (kk : Ok g M R Z kc ks h n L (.ref q :: st)) : Ok g M R Z kc ks h pc L (.int i :: .ref a :: st) := by
  intro p e s m args below meth c H locs ls C hW hF hl
  obtain ⟨hd, hn, -⟩ := md_dec C.2.2.2.2.2.2.2.2.2.2 hf
  subst hn
  have hA := Wd_A hW ho
  have hty := (C.2.2.2.2.2.2.2.1.1.2 t _ (tb_get hta)).1 len (fun j => hp_fv h (sg_at t) a j)
  have hc := ix_cl hi hj hlen
  refine W.aald (v := .ref q) C.1 C.2.1 hA hty (by cases hz : sg_at t <;> rw [hz] at ht <;> first | rfl | cases ht) (fun q => by cases q) (by show ¬ (i < 0 ∨ (arrV _ _ _).slots.size ≤ _); rw [arrV_size]; exact ix_in hi hj hlen) (by rw [hc, arrV_read _ _ hj, hp_fv_R ht, hq]; rfl) rfl rfl hd (kk p e s m args below meth c H locs ls C hW hF hl)
theorem k_alen {n x0 y0 t a len : Nat} (hf : md_f M pc = some (.arraylength, 1, n, x0, y0)) (ho : isA g h a t len) (hta : t < sg_na) (kk : Ok g M R Z kc ks h n L (.int (nI len) :: st)) : Ok g M R Z kc ks h pc L (.ref a :: st) := by
  intro p e s m args below meth c H locs ls C hW hF hl
  obtain ⟨hd, hn, -⟩ := md_dec C.2.2.2.2.2.2.2.2.2.2 hf
  subst hn
  have hA := Wd_A hW ho
  have hty := (C.2.2.2.2.2.2.2.1.1.2 t _ (tb_get hta)).1 len (fun j => hp_fv h (sg_at t) a j)
  exact W.alen (n := Int32.ofNat len) C.1 C.2.1 hA hty (by rw [arrV_size] <;> rfl) rfl rfl hd (kk p e s m args below meth c H locs ls C hW hF hl)
/-- what an array's place holds behind a store -/
theorem Wd_ast {H H1 : Heap} {t a len j : Nat} {v : Value} {h1 : Hp} (hW : Wd g h H) (ho : isA g h a t len) (e1 : H1[a]? = some ((arrV (g.2.2.2.1 t) len (fun j => hp_fv h (sg_at t) a j)).setSlot j v)) (e2 : H1.size = H.size) (e3 : ∀ q, q ≠ a → H1[q]? = H[q]?)
    (en : hp_n h1 = hp_n h) (ek : hp_k h1 = hp_k h) (el : hp_l h1 = hp_l h) (eo : ∀ q, q ≠ a → ∀ ty j, hp_fv h1 ty q j = hp_fv h ty q j) (ea : ∀ i, updV (fun k => hp_fv h (sg_at t) a k) j v i = hp_fv h1 (sg_at t) a i) : Wd g h1 H1 := by
  refine Wd_set hW ho.1 e2 en e3 ?_ ek el eo
  unfold hp_at
  rw [ek, el, ho.2.2.1, ho.2.2.2]
  show H1[a]? = _
  rw [e1, arrV_store]
  congr 2
  funext i
  exact ea i
theorem k_iast {n x0 y0 t a len j : Nat} {i : Int32} {x : Int32} (hf : md_f M pc = some (.iastore, 1, n, x0, y0)) (ho : isA g h a t len) (ht : sg_at t = .int) (hta : t < sg_na) (hi : i = nI j) (hj : j < len) (hlen : len < 2147483648)  (kk : Ok g M R Z kc ks (hp_ui h a j x) n L st) : Ok g M R Z kc ks h pc L (.int x :: .int i :: .ref a :: st) := by
  intro p e s m args below meth c H locs ls C hW hF hl
  obtain ⟨hd, hn, -⟩ := md_dec C.2.2.2.2.2.2.2.2.2.2 hf
  subst hn
  have hA := Wd_A hW ho
  have hty := (C.2.2.2.2.2.2.2.1.1.2 t _ (tb_get hta)).1 len (fun j => hp_fv h (sg_at t) a j)
  have hc := ix_cl hi hj hlen
  refine W.iast C.1 C.2.1 hA (by rw [ht] at hty ⊢; exact hty) (fun q => by cases q) (by show ¬ (i < 0 ∨ (arrV _ _ _).slots.size ≤ _); rw [arrV_size]; exact ix_in hi hj hlen) rfl rfl hd (fun H1 e1 e2 e3 => ?_)
  rw [hc] at e1 ⊢
  skip
  refine kk p e s m args below meth c H1 _ ls C (Wd_ast hW ho e1 e2 e3 rfl rfl rfl (fun q hq ty j => hp_fv_ui (Or.inl hq)) (fun b => ?_)) (fun q hq => ?_) hl
  · by_cases e : b = j
    · subst e
      simp only [updV, if_true]
      rw [ht]
      show _ = Value.int (up2 _ a b _ a b)
      rw [up2_s]
    · simp only [updV, if_neg e]
      exact (hp_fv_ui (Or.inr e)).symm
  · rcases List.mem_append.mp hq with z | z
    · exact hF q z
    · rw [List.mem_singleton.mp z]; exact ho.1
theorem k_zast {n x0 y0 t a len j : Nat} {i : Int32} {x : Int32} (hf : md_f M pc = some (.bastore, 1, n, x0, y0)) (ho : isA g h a t len) (ht : sg_at t = .boolean) (hta : t < sg_na) (hi : i = nI j) (hj : j < len) (hlen : len < 2147483648) (hx : narrow .boolean (.int x) = .int x) (kk : Ok g M R Z kc ks (hp_ui h a j x) n L st) : Ok g M R Z kc ks h pc L (.int x :: .int i :: .ref a :: st) := by
  intro p e s m args below meth c H locs ls C hW hF hl
  obtain ⟨hd, hn, -⟩ := md_dec C.2.2.2.2.2.2.2.2.2.2 hf
  subst hn
  have hA := Wd_A hW ho
  have hty := (C.2.2.2.2.2.2.2.1.1.2 t _ (tb_get hta)).1 len (fun j => hp_fv h (sg_at t) a j)
  have hc := ix_cl hi hj hlen
  refine W.zast C.1 C.2.1 hA (by rw [ht] at hty ⊢; exact hty) (fun q => by cases q) (by show ¬ (i < 0 ∨ (arrV _ _ _).slots.size ≤ _); rw [arrV_size]; exact ix_in hi hj hlen) rfl rfl hd (fun H1 e1 e2 e3 => ?_)
  rw [hc] at e1 ⊢
  rw [hx] at e1
  refine kk p e s m args below meth c H1 _ ls C (Wd_ast hW ho e1 e2 e3 rfl rfl rfl (fun q hq ty j => hp_fv_ui (Or.inl hq)) (fun b => ?_)) (fun q hq => ?_) hl
  · by_cases e : b = j
    · subst e
      simp only [updV, if_true]
      rw [ht]
      show _ = Value.int (up2 _ a b _ a b)
      rw [up2_s]
    · simp only [updV, if_neg e]
      exact (hp_fv_ui (Or.inr e)).symm
  · rcases List.mem_append.mp hq with z | z
    · exact hF q z
    · rw [List.mem_singleton.mp z]; exact ho.1
theorem k_last {n x0 y0 t a len j : Nat} {i : Int32} {x : Int64} (hf : md_f M pc = some (.lastore, 1, n, x0, y0)) (ho : isA g h a t len) (ht : sg_at t = .long) (hta : t < sg_na) (hi : i = nI j) (hj : j < len) (hlen : len < 2147483648)  (kk : Ok g M R Z kc ks (hp_uj h a j x) n L st) : Ok g M R Z kc ks h pc L (.long x :: .int i :: .ref a :: st) := by
  intro p e s m args below meth c H locs ls C hW hF hl
  obtain ⟨hd, hn, -⟩ := md_dec C.2.2.2.2.2.2.2.2.2.2 hf
  subst hn
  have hA := Wd_A hW ho
  have hty := (C.2.2.2.2.2.2.2.1.1.2 t _ (tb_get hta)).1 len (fun j => hp_fv h (sg_at t) a j)
  have hc := ix_cl hi hj hlen
  refine W.last C.1 C.2.1 hA (by rw [ht] at hty ⊢; exact hty) (fun q => by cases q) (by show ¬ (i < 0 ∨ (arrV _ _ _).slots.size ≤ _); rw [arrV_size]; exact ix_in hi hj hlen) rfl rfl hd (fun H1 e1 e2 e3 => ?_)
  rw [hc] at e1 ⊢
  skip
  refine kk p e s m args below meth c H1 _ ls C (Wd_ast hW ho e1 e2 e3 rfl rfl rfl (fun q hq ty j => hp_fv_uj (Or.inl hq)) (fun b => ?_)) (fun q hq => ?_) hl
  · by_cases e : b = j
    · subst e
      simp only [updV, if_true]
      rw [ht]
      show _ = Value.long (up2 _ a b _ a b)
      rw [up2_s]
    · simp only [updV, if_neg e]
      exact (hp_fv_uj (Or.inr e)).symm
  · rcases List.mem_append.mp hq with z | z
    · exact hF q z
    · rw [List.mem_singleton.mp z]; exact ho.1
/-- a class's object into an array over that class -/
def at_ok (t ci : Nat) : Bool := match sg_cl[ci]?, sg_at t with
  | some r, .object C => decide (r.1 = C)
  | _, _ => false
theorem k_aast {n x0 y0 t a len j v ci : Nat} {i : Int32} (hf : md_f M pc = some (.aastore, 1, n, x0, y0)) (ho : isA g h a t len) (hv : isO g h v ci) (ht : at_ok t ci = true) (hta : t < sg_na) (hi : i = nI j) (hj : j < len) (hlen : len < 2147483648) (kk : Ok g M R Z kc ks (hp_ur h a j (some v)) n L st) : Ok g M R Z kc ks h pc L (.ref v :: .int i :: .ref a :: st) := by
  intro p e s m args below meth c H locs ls C hW hF hl
  obtain ⟨hd, hn, -⟩ := md_dec C.2.2.2.2.2.2.2.2.2.2 hf
  subst hn
  have hA := Wd_A hW ho
  obtain ⟨r, hr, cellV, g1, g2, g3, -⟩ := Wd_O hW hv
  have hK := C.2.2.2.2.2.2.2.1.1
  have hc := ix_cl hi hj hlen
  unfold at_ok at ht
  rw [hr] at ht
  cases hat : sg_at t with
  | object E =>
    rw [hat] at ht
    have hE : r.1 = E := of_decide_eq_true ht
    subst hE
    have hcls := (hK.1 ci r hr).2
    have hta2 := (hK.2 t _ (tb_get hta)).2
    simp only [hat] at hta2
    obtain ⟨kA, comp, k1, k2, k3, -⟩ := hta2
    have hcomp : comp = g.2.1 ci := Option.some.inj (k3.symm.trans hcls.1)
    subst hcomp
    obtain ⟨kC, hkC, -⟩ := hcls.2
    refine W.aast C.1 C.2.1 hA (fun q h => by cases h) (fun h => by cases h) k1 k2 rfl hkC ⟨by rw [hi]; exact nI_pos (Nat.lt_trans hj hlen), by show _ < (arrV _ _ _).slots.size; rw [arrV_size, hc]; exact hj⟩ g1 (fun q h => by rw [g3] at h; cases h) (by rw [g2]; exact hkC) (by rw [g2]; exact va_assign hcls) rfl rfl hd (fun H1 e1 e2 e3 => ?_)
    rw [hc] at e1 ⊢
    refine kk p e s m args below meth c H1 _ ls C (Wd_ast hW ho e1 e2 e3 rfl rfl rfl (fun q hq ty j => hp_fv_ur (Or.inl hq)) (fun b => ?_)) (fun q hq => ?_) hl
    · by_cases e : b = j
      · subst e
        simp only [updV, if_true]
        rw [hat]
        show _ = va_rf (up2 _ a b _ a b)
        rw [up2_s]; rfl
      · simp only [updV, if_neg e]
        exact (hp_fv_ur (Or.inr e)).symm
    · rcases List.mem_append.mp hq with z | z
      · exact hF q z
      · rw [List.mem_singleton.mp z]; exact ho.1
  | _ => rw [hat] at ht; cases ht
/-- a new array of numbers -/
theorem k_newa {n x0 y0 t len : Nat} {i : Int32} {aT : ArrayType} (hf : md_f M pc = some (.newarray aT, 2, n, x0, y0)) (ht : newarray.typeOf aT = sg_at t) (hD : ty_D (sg_at t) = false) (hR : ty_R (sg_at t) = false) (hta : t < sg_na) (hw : Cond.arrayClass (sg_at t) ∈ sg_tbl) (hi : i = nI len) (hlen : len < 60000000) (hc : kc + 1 ≤ R.cells) (hs : ks + len ≤ R.slots)
    (kk : Ok g M R Z (kc + 1) (ks + len) (hp_new h (.inr t) len) n L (.ref (hp_n h) :: st)) : Ok g M R Z kc ks h pc L (.int i :: st) := by
  intro p e s m args below meth c H locs ls C hW hF hl
  obtain ⟨hd, hn, -⟩ := md_dec C.2.2.2.2.2.2.2.2.2.2 hf
  subst hn
  have hK := C.2.2.2.2.2.2.2.1.1
  have hcl : i.toNatClampNeg = len := by rw [hi]; exact nI_clamp (by omega)
  refine va_newaK C.1 C.2.1 (by rw [ht]; exact C.2.2.2.2.2.1 _ hw) rfl hd rfl (by rw [hi]; exact nI_pos (by omega)) hcl ?_ hc hs hW.1 (fun H1 cA e1 z1 o1 hAr hNm => ?_)
  · have : componentBytes (newarray.typeOf aT) ≤ 8 := by cases aT <;> decide
    exact Nat.le_trans (Nat.mul_le_mul_left len this) (by omega)
  · have h2 := (hK.2 t _ (tb_get hta)).2
    have h3 : s.vm.findClass ("[" ++ (sg_at t).toString) = some (g.2.2.2.1 t) := by
      revert h2; show va_RA s (g.2.2.2.1 t) (sg_at t) → _
      cases hz : sg_at t <;> rw [hz] at hR <;> first | (cases hR; done) | exact id
    rw [ht] at hNm e1
    have h4 : cA = g.2.2.2.1 t := Option.some.inj (hNm.symm.trans h3)
    subst h4
    refine kk p e s m args below meth c H1 locs ls C (Wd_new hW (by rw [z1, hW.1]) (fun q hq => o1 q (by rw [← hW.1]; exact hq)) ?_) hF hl
    unfold hp_at
    have k1 : hp_k (hp_new h (.inr t) len) (hp_n h) = .inr t := va_up_self _ _ _
    have k2 : hp_l (hp_new h (.inr t) len) (hp_n h) = len := va_up_self _ _ _
    rw [k1, k2]
    show H1[hp_n h]? = _
    rw [e1]
    congr 2
    funext j
    exact (hp_fv_new hD).symm
/-- a new array of objects -/
theorem k_newq {n x0 y0 t len idx : Nat} {i : Int32} {E : String} (hf : md_f M pc = some (.anewarray idx, 3, n, x0, y0)) (ht : sg_at t = .object E) (hta : t < sg_na) (hw : Cond.classLink (md_y M).cls idx E ∈ sg_tbl) (hE : E ∈ sg_refs) (hi : i = nI len) (hlen : len < 60000000) (hc : kc + 1 ≤ R.cells) (hs : ks + len ≤ R.slots)
    (kk : Ok g M R Z (kc + 1) (ks + len) (hp_new h (.inr t) len) n L (.ref (hp_n h) :: st)) : Ok g M R Z kc ks h pc L (.int i :: st) := by
  intro p e s m args below meth c H locs ls C hW hF hl
  obtain ⟨hd, hn, -⟩ := md_dec C.2.2.2.2.2.2.2.2.2.2 hf
  subst hn
  have hK := C.2.2.2.2.2.2.2.1.1
  have hcl : i.toNatClampNeg = len := by rw [hi]; exact nI_clamp (by omega)
  refine W.anew C.1 C.2.1 C.2.2.2.2.1 (C.2.2.2.2.2.1 _ hw) (va_AO.use (C.2.2.2.2.2.2.2.1.2.2 E hE)) rfl hd rfl (by rw [hi]; exact nI_pos (by omega)) (by rw [hcl]; omega) hc (by rw [hcl]; exact hs) (fun cA kA comp f1 f2 f3 f4 => ?_)
  have h2 := (hK.2 t _ (tb_get hta)).2
  simp only [ht] at h2
  obtain ⟨kA', comp', m1, m2, m3, m4⟩ := h2
  have h4 : cA = g.2.2.2.1 t := Option.some.inj (f1.symm.trans m4)
  subst h4
  rw [hcl, hW.1]
  refine kk p e s m args below meth c _ locs ls C (Wd_new hW (by rw [Array.size_push]) (fun q hq => by rw [Array.getElem?_push, if_neg (Nat.ne_of_lt hq)]) ?_) hF hl
  unfold hp_at
  have k1 : hp_k (hp_new h (.inr t) len) (hp_n h) = .inr t := va_up_self _ _ _
  have k2 : hp_l (hp_new h (.inr t) len) (hp_n h) = len := va_up_self _ _ _
  rw [k1, k2]
  show (Array.push H _)[hp_n h]? = _
  rw [← hW.1, Array.getElem?_push_size, arrV_new]
  congr 2
  funext j
  rw [hW.1, ht]
  exact (hp_fv_new (h := h) (kd := .inr t) (len := len) (ty := .object E) (k := j) rfl).symm
theorem k_new {n y0 ci idx N : Nat} (hf : md_f M pc = some (.new idx, 3, n, ci, y0)) (w1 : Cond.classLink (md_y M).cls idx (sg_C ci) ∈ sg_tbl) (w2 : Cond.instantiable (sg_C ci) N ∈ sg_tbl) (w3 : Cond.initialized (sg_C ci) ∈ sg_tbl) (hN : sg_N ci = N) (hD : ((List.range N).all (fun k => !(ty_D (sg_ft ci k)))) = true) (hci : ci < 5) (hc : kc + 1 ≤ R.cells) (hs : ks + N ≤ R.slots)
    (kk : Ok g M R Z (kc + 1) (ks + N) (hp_new h (.inl ci) 0) n L (.ref (hp_n h) :: st)) : Ok g M R Z kc ks h pc L st := by
  intro p e s m args below meth c H locs ls C hW hF hl
  obtain ⟨hd, hn, -⟩ := md_dec C.2.2.2.2.2.2.2.2.2.2 hf
  subst hn
  have hK := C.2.2.2.2.2.2.2.1.1
  cases hr : sg_cl[ci]? with
  | none => exact absurd (List.getElem?_eq_none_iff.mp hr) (by show ¬ 5 ≤ ci; omega)
  | some r =>
    have hN2 : r.2.2 = N := by rw [← hN]; unfold sg_N; rw [hr]
    have hC2 : sg_C ci = r.1 := by unfold sg_C; rw [hr]
    rw [hC2] at w1 w2 w3
    obtain ⟨hin, hty, hnm⟩ := sg_cl_ok ci r hr
    have hKn := hK.1 ci r hr
    refine W.newcK C.1 C.2.1 C.2.2.2.2.1 (C.2.2.2.2.2.1 _ w1) (C.2.2.2.2.2.1 _ w2) (C.2.2.2.2.2.1 _ w3) rfl hd hc hs hKn.2.1 hW.1 (fun H1 kC hkC e1 z1 o1 => ?_)
    refine kk p e s m args below meth c H1 locs ls C (Wd_new hW (by rw [z1, hW.1]) (fun q hq => o1 q (by rw [← hW.1]; exact hq)) ?_) hF hl
    unfold hp_at
    have k1 : hp_k (hp_new h (.inl ci) 0) (hp_n h) = .inl ci := va_up_self _ _ _
    rw [k1]
    refine ⟨r, hr, (u_born (sg_ft ci) C.2.2.2.2.2.1 hin hKn hkC e1 hty).to (fun k hkN => ?_)⟩
    have h9 := List.all_eq_true.mp hD k (List.mem_range.mpr (by rw [← hN2]; exact hkN))
    exact (hp_fv_new (by simpa using h9)).symm
theorem k_objInit {n x0 y0 a idx : Nat} (hf : md_f M pc = some (.invokespecial idx, 3, n, x0, y0)) (hw : Cond.methodLink (md_y M).cls idx Lib.objectInit ∈ sg_tbl) (hw2 : Cond.instanceMethod Lib.objectInit ∈ sg_tbl) (hw3 : Cond.code Lib.objectInit ⟨#[0xb1]⟩ 1 none ∈ sg_tbl) (hfr : 1 ≤ R.frames) (hlo : (st.map fun v => v.category).sum + 12 ≤ R.locals) (kk : Ok g M R Z kc ks h n L st) : Ok g M R Z kc ks h pc L (.ref a :: st) := by
  intro p e s m args below meth c H locs ls C hW hF hl
  obtain ⟨hd, hn, -⟩ := md_dec C.2.2.2.2.2.2.2.2.2.2 hf
  subst hn
  refine W.objInit C.1 C.2.1 C.2.2.2.2.1 (C.2.2.2.2.2.1 _ hw) (C.2.2.2.2.2.1 _ hw2) (C.2.2.2.2.2.1 _ hw3) rfl (by rw [C.2.2.1]; exact hl.1.1) rfl hd hfr ?_ (kk p e s m args below meth c H locs ls C hW hF hl)
  show 2 * 0 + _ + 12 ≤ _
  omega
end ROWS2
section ROWS3
variable {g : Gx} {M : Md} {R : Room} {mc ms kc ks : Nat} {Q : Option Value → Hp → Prop} {h : Hp} {pc : Nat} {L : List (Option Value)} {st : List Value}
theorem k_iret {n x0 y0 : Nat} {x : Int32} (hf : md_f M pc = some (.ireturn, 1, n, x0, y0)) (hr : md_r M = some .int)  (hc : kc ≤ mc) (hs : ks ≤ ms) (hQ : Q (some (.int x)) h) : Ok g M R (Zm g mc ms Q) kc ks h pc L [.int x] := by
  intro p e s m args below meth c H locs ls C hW hF hl
  obtain ⟨hd, hn, -⟩ := md_dec C.2.2.2.2.2.2.2.2.2.2 hf
  subst hn
  refine W.widen hc hs ?_
  exact W.iret (v := x) (Qc := Qx g Q) (free := fun q => gx_B g ≤ q) C.1 C.2.1 (C.2.2.2.1.trans hr)  (fun t ht hv => ⟨_, h, rfl, hQ, by rw [ht]; exact hW, Tb_moved C.2.2.2.2.2.2.2.1 hv⟩) hF hd (hlocks := C.2.2.2.2.2.2.1)
theorem k_zret {n x0 y0 : Nat} {x : Int32} (hf : md_f M pc = some (.ireturn, 1, n, x0, y0)) (hr : md_r M = some .boolean) (hx : narrow .boolean (.int x) = .int x) (hc : kc ≤ mc) (hs : ks ≤ ms) (hQ : Q (some (.int x)) h) : Ok g M R (Zm g mc ms Q) kc ks h pc L [.int x] := by
  intro p e s m args below meth c H locs ls C hW hF hl
  obtain ⟨hd, hn, -⟩ := md_dec C.2.2.2.2.2.2.2.2.2.2 hf
  subst hn
  refine W.widen hc hs ?_
  exact W.zret (v := x) (Qc := Qx g Q) (free := fun q => gx_B g ≤ q) C.1 C.2.1 (C.2.2.2.1.trans hr) hx (fun t ht hv => ⟨_, h, rfl, hQ, by rw [ht]; exact hW, Tb_moved C.2.2.2.2.2.2.2.1 hv⟩) hF hd (hlocks := C.2.2.2.2.2.2.1)
theorem k_lret {n x0 y0 : Nat} {x : Int64} (hf : md_f M pc = some (.lreturn, 1, n, x0, y0)) (hr : md_r M = some .long)  (hc : kc ≤ mc) (hs : ks ≤ ms) (hQ : Q (some (.long x)) h) : Ok g M R (Zm g mc ms Q) kc ks h pc L [.long x] := by
  intro p e s m args below meth c H locs ls C hW hF hl
  obtain ⟨hd, hn, -⟩ := md_dec C.2.2.2.2.2.2.2.2.2.2 hf
  subst hn
  refine W.widen hc hs ?_
  exact W.lret (v := x) (Qc := Qx g Q) (free := fun q => gx_B g ≤ q) C.1 C.2.1 (C.2.2.2.1.trans hr)  (fun t ht hv => ⟨_, h, rfl, hQ, by rw [ht]; exact hW, Tb_moved C.2.2.2.2.2.2.2.1 hv⟩) hF hd (hlocks := C.2.2.2.2.2.2.1)
theorem k_vret {n x0 y0 : Nat}  (hf : md_f M pc = some (.return_, 1, n, x0, y0)) (hr : md_r M = none)  (hc : kc ≤ mc) (hs : ks ≤ ms) (hQ : Q (none) h) : Ok g M R (Zm g mc ms Q) kc ks h pc L [] := by
  intro p e s m args below meth c H locs ls C hW hF hl
  obtain ⟨hd, hn, -⟩ := md_dec C.2.2.2.2.2.2.2.2.2.2 hf
  subst hn
  refine W.widen hc hs ?_
  exact W.vret (Qc := Qx g Q) (free := fun q => gx_B g ≤ q) C.1 C.2.1 (C.2.2.2.1.trans hr)  (fun t ht hv => ⟨_, h, rfl, hQ, by rw [ht]; exact hW, Tb_moved C.2.2.2.2.2.2.2.1 hv⟩) hF hd (hlocks := C.2.2.2.2.2.2.1)
theorem k_aret {n x0 y0 x : Nat} {rt : FieldType} (hf : md_f M pc = some (.areturn, 1, n, x0, y0)) (hr : md_r M = some rt) (hrt : (∃ n, rt = .object n) ∨ ∃ t, rt = .array t) (hc : kc ≤ mc) (hs : ks ≤ ms) (hQ : Q (some (.ref x)) h) : Ok g M R (Zm g mc ms Q) kc ks h pc L [.ref x] := by
  intro p e s m args below meth c H locs ls C hW hF hl
  obtain ⟨hd, hn, -⟩ := md_dec C.2.2.2.2.2.2.2.2.2.2 hf
  subst hn
  refine W.widen hc hs ?_
  exact W.aret (v := .ref x) (Qc := Qx g Q) (free := fun q => gx_B g ≤ q) C.1 C.2.1 (C.2.2.2.1.trans hr) hrt (Or.inr ⟨x, rfl⟩) (fun t ht hv => ⟨_, h, rfl, hQ, by rw [ht]; exact hW, Tb_moved C.2.2.2.2.2.2.2.1 hv⟩) hF hd (hlocks := C.2.2.2.2.2.2.1)
end ROWS3
/-! CALLS -/
section CALLS
variable {g : Gx} {M M1 : Md} {R : Room} {Z : Zx} {kc ks : Nat} {h : Hp} {pc : Nat} {L : List (Option Value)} {st : List Value} {d mc ms : Nat}
theorem ct_blind {As : List Value} : FrameBlind (va_Pc As (fun U => Wd g h U.heap ∧ Tb g U)) := by
  intro a U f mk q
  obtain ⟨q0, q1, q2⟩ := q
  exact ⟨q0, q1, Tb_same q2 rfl⟩
/-- the room that a callee at depth d wants -/
def rm_ok (R : Room) (d maxL : Nat) : Prop := d + 1 ≤ R.frames ∧ 8 + (maxL + 11) + 48 * d ≤ R.locals
theorem rm_d {d mc ms maxL : Nat} (h : maxL ≤ 29) : rm_ok (rmd (d + 1) mc ms) d maxL := by
  refine ⟨Nat.le_refl _, ?_⟩
  show _ ≤ 48 * (d + 1)
  omega
/-- what the tables must say of a callee -/
def cl_w (M1 : Md) (n : Nat) : Prop := Cond.code (md_y M1) (md_b M1) (md_n M1) (md_r M1) ∈ sg_tbl ∧ Cond.initialized (md_y M1).cls ∈ sg_tbl ∧ ((md_y M1).cls ≠ "java/lang/invoke/MethodHandle" ∧ (md_y M1).cls ≠ "java/lang/invoke/VarHandle") ∧ (parseMethodDescriptor (md_y M1).desc).map (fun d => d.parameters.length) = some n
def cl_S (M1 : Md) (n : Nat) : Prop := cl_w M1 n ∧ Cond.static (md_y M1) ∈ sg_tbl
def cl_V (M1 : Md) (n : Nat) : Prop := cl_w M1 n ∧ Cond.instanceMethod (md_y M1) ∈ sg_tbl ∧ Cond.selects (md_y M1).cls (md_y M1) (md_y M1) ∈ sg_tbl
def cl_I (M1 : Md) (n : Nat) : Prop := cl_w M1 n ∧ Cond.instanceMethod (md_y M1) ∈ sg_tbl ∧ (md_y M1).name = "<init>" ∧ md_r M1 = none
theorem cl_good {s : State} {args : Array Value} (C : ∀ w ∈ sg_tbl, w.before args s = true) (h : Cond.code (md_y M1) (md_b M1) (md_n M1) (md_r M1) ∈ sg_tbl) : ∀ w ∈ md_ws M1, ∀ (a' : Array Value) (U : State), s.WarmedH U.vm → w.before a' U = true := by
  intro w hw a' U hU
  have h1 : w ∈ sg_tbl := by
    rcases List.mem_cons.mp hw with e | e
    · rw [e]; exact h
    · exact e
  exact word_at hU (sg_good w h1) (C w h1)
theorem cl_B {idx n : Nat} {s : State} {args : Array Value} (C : ∀ w ∈ sg_tbl, w.before args s = true) (hw : cl_w M1 n) (hk : Cond.methodLink (md_y M).cls idx (md_y M1) ∈ sg_tbl) (hR : rm_ok R d (md_n M1)) : CallB R s args (md_y M).cls idx (md_y M1) (md_b M1) (md_n M1) (md_r M1) (md_ws M1) (rmd d mc ms) mc ms n := by
  obtain ⟨w1, w2, w3, w4⟩ := hw
  refine ⟨rfl, rfl, hR.1, hR.2, cl_good C w1, List.mem_cons_self, C _ w1, C _ w2, w3, fun sig hs => ?_, C _ hk⟩
  rw [hs] at w4
  exact (Option.some.inj w4).symm
theorem cl_BN {idx n : Nat} {s : State} {args : Array Value} (C : ∀ w ∈ sg_tbl, w.before args s = true) (T : Tb g s) (hw : cl_w M1 n) (hk : Cond.methodLinkNest (md_y M).cls idx (md_y M1) sg_host ∈ sg_nest) (hR : rm_ok R d (md_n M1)) : va_CN R s args (md_y M).cls idx (md_y M1) sg_host (md_b M1) (md_n M1) (md_r M1) (md_ws M1) (rmd d mc ms) mc ms n := by
  obtain ⟨w1, w2, w3, w4⟩ := hw
  refine ⟨⟨rfl, rfl, hR.1, hR.2, cl_good C w1, List.mem_cons_self⟩, C _ w1, C _ w2, w3, fun sig hs => ?_, va_Nw.use rfl (T.2.1 _ hk)⟩
  rw [hs] at w4
  exact (Option.some.inj w4).symm
/-- an answer on the stack -/
def psh (r : Option Value) (st : List Value) : List Value := match r with
  | none => st
  | some v => v :: st
theorem psh_eq (r : Option Value) (st : List Value) : r.toList ++ st = psh r st := by cases r <;> rfl
/-- behind a call -/
theorem cl_go {st0 : List Value} {p : Program} {e : Env} {s : State} {m : MethodId} {args : Array Value} {below : List Frame} {meth : Method} {c : Code} {H : Heap} {locs : List Loc} {ls : Array Slot} {a : Array Value}
    (C : Cx g M p s m args meth c) (hF : ∀ q ∈ locs, gx_B g ≤ q.base) (hl : lvk ls (md_n M) L)
    (hr : va_Run p (gx_l g) e R s m args below meth c H locs kc ks mc ms (F0 m pc ls st0) st (Qx g (fun r h1 => Ok g M R Z (kc + mc) (ks + ms) h1 (pc + 3) L (psh r st)) a) (fun q => gx_B g ≤ q)) : W p (gx_l g) e R s m args below meth c H locs kc ks (Z below args s) (F0 m pc ls st0) := by
  intro T hT X
  obtain ⟨v, st₀, t, T', L1, h0, X', hL, e1, e2, ⟨r, h1, hv, hq, hW, hTb⟩, stp⟩ := hr T hT X
  cases hv
  rw [psh_eq] at stp
  obtain ⟨t2, a1, b1⟩ := hq p e s m args below meth c T'.heap (locs ++ L1) ls C (by rw [e1]; exact hW) (fun q hq => by
    rcases List.mem_append.mp hq with z | z
    · exact hF q z
    · exact hL q z) hl T' rfl X'
  exact ⟨t2, stp t2 a1, b1⟩
theorem k_callS {n x0 y0 idx na : Nat}  {As st0 : List Value} (hf : md_f M pc = some (.invokestatic idx, 3, n, x0, y0)) (hs0 : st0 = As.reverse ++ st) (hna : As.length = na) (hst : (st.map fun v => v.category).sum ≤ 8) (hcm : kc + mc ≤ R.cells) (hsm : ks + ms ≤ R.slots) (hR : rm_ok R d (md_n M1)) (hk : Cond.methodLink (md_y M).cls idx (md_y M1) ∈ sg_tbl) (hw : cl_S M1 na)
    (kk : Ct g M1 d mc ms (As) h (fun r h1 => Ok g M R Z (kc + mc) (ks + ms) h1 n L (psh r st))) : Ok g M R Z kc ks h pc L st0 := by
  intro p e s m args below meth c H locs ls C hW hF hl
  obtain ⟨hd, hn, -⟩ := md_dec C.2.2.2.2.2.2.2.2.2.2 hf
  subst hn
  exact cl_go C hF hl (va_runS ⟨C.1, C.2.1, C.2.2.1, C.2.2.2.2.1, C.2.2.2.2.2.1⟩ kk ⟨cl_B C.2.2.2.2.2.1 hw.1 hk hR, C.2.2.2.2.2.1 _ hw.2⟩ ⟨ct_blind, fun U hU hv => ⟨rfl, by rw [hU]; exact hW, Tb_moved C.2.2.2.2.2.2.2.1 hv⟩⟩ rfl hna hl.1.1 hs0 (lv_room hst) hd ⟨hcm, hsm⟩)
theorem k_callSN {n x0 y0 idx na : Nat}  {As st0 : List Value} (hf : md_f M pc = some (.invokestatic idx, 3, n, x0, y0)) (hs0 : st0 = As.reverse ++ st) (hna : As.length = na) (hst : (st.map fun v => v.category).sum ≤ 8) (hcm : kc + mc ≤ R.cells) (hsm : ks + ms ≤ R.slots) (hR : rm_ok R d (md_n M1)) (hk : Cond.methodLinkNest (md_y M).cls idx (md_y M1) sg_host ∈ sg_nest) (hw : cl_S M1 na)
    (kk : Ct g M1 d mc ms (As) h (fun r h1 => Ok g M R Z (kc + mc) (ks + ms) h1 n L (psh r st))) : Ok g M R Z kc ks h pc L st0 := by
  intro p e s m args below meth c H locs ls C hW hF hl
  obtain ⟨hd, hn, -⟩ := md_dec C.2.2.2.2.2.2.2.2.2.2 hf
  subst hn
  exact cl_go C hF hl (va_runSN ⟨C.1, C.2.1, C.2.2.1, C.2.2.2.2.1, C.2.2.2.2.2.1⟩ kk ⟨cl_BN C.2.2.2.2.2.1 C.2.2.2.2.2.2.2.1 hw.1 hk hR, C.2.2.2.2.2.1 _ hw.2, trivial⟩ ⟨ct_blind, fun U hU hv => ⟨rfl, by rw [hU]; exact hW, Tb_moved C.2.2.2.2.2.2.2.1 hv⟩⟩ rfl hna hl.1.1 hs0 (lv_room hst) hd ⟨hcm, hsm⟩)
theorem k_callV {n x0 y0 idx na : Nat} {b ci : Nat} {As st0 : List Value} (hf : md_f M pc = some (.invokevirtual idx, 3, n, x0, y0)) (hs0 : st0 = As.reverse ++ .ref b :: st) (hna : As.length = na) (hst : (st.map fun v => v.category).sum ≤ 8) (hcm : kc + mc ≤ R.cells) (hsm : ks + ms ≤ R.slots) (hR : rm_ok R d (md_n M1)) (hk : Cond.methodLink (md_y M).cls idx (md_y M1) ∈ sg_tbl) (hw : cl_V M1 na) (ho : isO g h b ci) (hc : sg_C ci = (md_y M1).cls)
    (kk : Ct g M1 d mc ms (.ref b :: As) h (fun r h1 => Ok g M R Z (kc + mc) (ks + ms) h1 n L (psh r st))) : Ok g M R Z kc ks h pc L st0 := by
  intro p e s m args below meth c H locs ls C hW hF hl
  obtain ⟨hd, hn, -⟩ := md_dec C.2.2.2.2.2.2.2.2.2.2 hf
  subst hn
  obtain ⟨r, hr, cell, g1, g2, g3, -⟩ := Wd_O hW ho
  have hc2 : r.1 = (md_y M1).cls := by rw [← hc]; unfold sg_C; rw [hr]
  have hrc : ∃ cellB : Cell, H[b]? = some cellB ∧ cellB.vm.isStatics = false ∧ s.vm.findClass (md_y M1).cls = some cellB.cls := ⟨cell, g1, by rw [g3]; rfl, by rw [g2, ← hc2]; exact (C.2.2.2.2.2.2.2.1.1.1 ci r hr).2.1⟩
  exact cl_go C hF hl (va_runV (C := (md_y M1).cls) ⟨C.1, C.2.1, C.2.2.1, C.2.2.2.2.1, C.2.2.2.2.2.1⟩ kk ⟨cl_B C.2.2.2.2.2.1 hw.1 hk hR, C.2.2.2.2.2.1 _ hw.2.1, C.2.2.2.2.2.1 _ hw.2.2⟩ ⟨ct_blind, hrc, fun U hU hv => ⟨rfl, by rw [hU]; exact hW, Tb_moved C.2.2.2.2.2.2.2.1 hv⟩⟩ rfl hna hl.1.1 hs0 (lv_room hst) hd ⟨hcm, hsm⟩)
theorem k_callVN {n x0 y0 idx na : Nat} {b ci : Nat} {As st0 : List Value} (hf : md_f M pc = some (.invokevirtual idx, 3, n, x0, y0)) (hs0 : st0 = As.reverse ++ .ref b :: st) (hna : As.length = na) (hst : (st.map fun v => v.category).sum ≤ 8) (hcm : kc + mc ≤ R.cells) (hsm : ks + ms ≤ R.slots) (hR : rm_ok R d (md_n M1)) (hk : Cond.methodLinkNest (md_y M).cls idx (md_y M1) sg_host ∈ sg_nest) (hw : cl_V M1 na) (ho : isO g h b ci) (hc : sg_C ci = (md_y M1).cls)
    (kk : Ct g M1 d mc ms (.ref b :: As) h (fun r h1 => Ok g M R Z (kc + mc) (ks + ms) h1 n L (psh r st))) : Ok g M R Z kc ks h pc L st0 := by
  intro p e s m args below meth c H locs ls C hW hF hl
  obtain ⟨hd, hn, -⟩ := md_dec C.2.2.2.2.2.2.2.2.2.2 hf
  subst hn
  obtain ⟨r, hr, cell, g1, g2, g3, -⟩ := Wd_O hW ho
  have hc2 : r.1 = (md_y M1).cls := by rw [← hc]; unfold sg_C; rw [hr]
  have hrc : ∃ cellB : Cell, H[b]? = some cellB ∧ cellB.vm.isStatics = false ∧ s.vm.findClass (md_y M1).cls = some cellB.cls := ⟨cell, g1, by rw [g3]; rfl, by rw [g2, ← hc2]; exact (C.2.2.2.2.2.2.2.1.1.1 ci r hr).2.1⟩
  exact cl_go C hF hl (va_runVN (C := (md_y M1).cls) ⟨C.1, C.2.1, C.2.2.1, C.2.2.2.2.1, C.2.2.2.2.2.1⟩ kk ⟨cl_BN C.2.2.2.2.2.1 C.2.2.2.2.2.2.2.1 hw.1 hk hR, C.2.2.2.2.2.1 _ hw.2.1, C.2.2.2.2.2.1 _ hw.2.2⟩ ⟨ct_blind, hrc, fun U hU hv => ⟨rfl, by rw [hU]; exact hW, Tb_moved C.2.2.2.2.2.2.2.1 hv⟩⟩ rfl hna hl.1.1 hs0 (lv_room hst) hd ⟨hcm, hsm⟩)
theorem k_callI {n x0 y0 idx na : Nat} {b : Nat} {As st0 : List Value} (hf : md_f M pc = some (.invokespecial idx, 3, n, x0, y0)) (hs0 : st0 = As.reverse ++ .ref b :: st) (hna : As.length = na) (hst : (st.map fun v => v.category).sum ≤ 8) (hcm : kc + mc ≤ R.cells) (hsm : ks + ms ≤ R.slots) (hR : rm_ok R d (md_n M1)) (hk : Cond.methodLink (md_y M).cls idx (md_y M1) ∈ sg_tbl) (hw : cl_I M1 na)
    (kk : Ct g M1 d mc ms (.ref b :: As) h (fun r h1 => Ok g M R Z (kc + mc) (ks + ms) h1 n L (psh r st))) : Ok g M R Z kc ks h pc L st0 := by
  intro p e s m args below meth c H locs ls C hW hF hl
  obtain ⟨hd, hn, -⟩ := md_dec C.2.2.2.2.2.2.2.2.2.2 hf
  subst hn
  have hB := cl_B (M := M) (M1 := M1) (R := R) (d := d) (mc := mc) (ms := ms) (idx := idx) (n := na) C.2.2.2.2.2.1 hw.1 hk hR
  rw [hw.2.2.2] at hB
  exact cl_go C hF hl (va_runI ⟨C.1, C.2.1, C.2.2.1, C.2.2.2.2.1, C.2.2.2.2.2.1⟩ kk ⟨hB, hw.2.2.1, C.2.2.2.2.2.1 _ hw.2.1⟩ ⟨ct_blind, fun U hU hv => ⟨rfl, by rw [hU]; exact hW, Tb_moved C.2.2.2.2.2.2.2.1 hv⟩⟩ rfl hna hl.1.1 hs0 (lv_room hst) hd ⟨hcm, hsm⟩)
theorem k_callIN {n x0 y0 idx na : Nat} {b : Nat} {As st0 : List Value} (hf : md_f M pc = some (.invokespecial idx, 3, n, x0, y0)) (hs0 : st0 = As.reverse ++ .ref b :: st) (hna : As.length = na) (hst : (st.map fun v => v.category).sum ≤ 8) (hcm : kc + mc ≤ R.cells) (hsm : ks + ms ≤ R.slots) (hR : rm_ok R d (md_n M1)) (hk : Cond.methodLinkNest (md_y M).cls idx (md_y M1) sg_host ∈ sg_nest) (hw : cl_I M1 na)
    (kk : Ct g M1 d mc ms (.ref b :: As) h (fun r h1 => Ok g M R Z (kc + mc) (ks + ms) h1 n L (psh r st))) : Ok g M R Z kc ks h pc L st0 := by
  intro p e s m args below meth c H locs ls C hW hF hl
  obtain ⟨hd, hn, -⟩ := md_dec C.2.2.2.2.2.2.2.2.2.2 hf
  subst hn
  have hB := cl_BN (g := g) (M := M) (M1 := M1) (R := R) (d := d) (mc := mc) (ms := ms) (idx := idx) (n := na) C.2.2.2.2.2.1 C.2.2.2.2.2.2.2.1 hw.1 hk hR
  rw [hw.2.2.2] at hB
  exact cl_go C hF hl (va_runIN ⟨C.1, C.2.1, C.2.2.1, C.2.2.2.2.1, C.2.2.2.2.2.1⟩ kk ⟨hB, hw.2.2.1, C.2.2.2.2.2.1 _ hw.2.1⟩ ⟨ct_blind, fun U hU hv => ⟨rfl, by rw [hU]; exact hW, Tb_moved C.2.2.2.2.2.2.2.1 hv⟩⟩ rfl hna hl.1.1 hs0 (lv_room hst) hd ⟨hcm, hsm⟩)
end CALLS
end
section
/-! a method that makes no cell: depth d, answer Q -/
abbrev Om (g : Gx) (M : Md) (d : Nat) (Q : Option Value → Hp → Prop) (h : Hp) (pc : Nat) (L : List (Option Value)) (st : List Value) : Prop := Ok g M (rmd d 0 0) (Zm g 0 0 Q) 0 0 h pc L st
section MORE
variable {g : Gx} {M M1 : Md} {R : Room} {Z : Zx} {kc ks d : Nat} {Q : Option Value → Hp → Prop} {h : Hp} {pc : Nat} {L : List (Option Value)} {st : List Value} {n x0 y0 : Nat}
theorem k_ist0 {a0 : Option Value} {r : List (Option Value)} {x : Int32} (hf : md_f M pc = some (.istore_n 0, 1, n, x0, y0)) (k : Ok g M R Z kc ks h n (some (.int x) :: r) st) : Ok g M R Z kc ks h pc (a0 :: r) (.int x :: st) := k_istore_n hf (by show 0 < List.length _; simp only [List.length_cons]; omega) rfl rfl k
theorem k_ast0 {a0 : Option Value} {r : List (Option Value)} {x : Nat} (hf : md_f M pc = some (.astore_n 0, 1, n, x0, y0)) (k : Ok g M R Z kc ks h n (some (.ref x) :: r) st) : Ok g M R Z kc ks h pc (a0 :: r) (.ref x :: st) := k_astore_n hf (by show 0 < List.length _; simp only [List.length_cons]; omega) rfl rfl k
theorem k_lst0 {a0 b : Option Value} {r : List (Option Value)} {x : Int64} (hf : md_f M pc = some (.lstore_n 0, 1, n, x0, y0)) (k : Ok g M R Z kc ks h n (some (.long x) :: none :: r) st) : Ok g M R Z kc ks h pc (a0 :: b :: r) (.long x :: st) := k_lstore_n hf (by show 0 + 1 < List.length _; simp only [List.length_cons]; omega) rfl rfl k
theorem k_inc0 {r : List (Option Value)} {x : Int32} (hf : md_f M pc = some (.iinc 0 1, 3, n, x0, y0)) (k : Ok g M R Z kc ks h n (some (.int (x + 1)) :: r) st) : Ok g M R Z kc ks h pc (some (.int x) :: r) st := k_iinc hf rfl rfl rfl rfl k
theorem k_incN0 {r : List (Option Value)} {j : Nat} (hf : md_f M pc = some (.iinc 0 1, 3, n, x0, y0)) (k : Ok g M R Z kc ks h n (some (.int (nI (j + 1))) :: r) st) : Ok g M R Z kc ks h pc (some (.int (nI j)) :: r) st := k_iinc hf rfl (nI_1 j) rfl rfl k
theorem k_decN0 {r : List (Option Value)} {j : Nat} (hf : md_f M pc = some (.iinc 0 (-1), 3, n, x0, y0)) (k : Ok g M R Z kc ks h n (some (.int (nI j)) :: r) st) : Ok g M R Z kc ks h pc (some (.int (nI (j + 1))) :: r) st := k_iinc hf rfl (pk_m1 j) rfl rfl k
theorem k_ist1 {a0 a1 : Option Value} {r : List (Option Value)} {x : Int32} (hf : md_f M pc = some (.istore_n 1, 1, n, x0, y0)) (hs : lc_1 a0 = true) (k : Ok g M R Z kc ks h n (a0 :: some (.int x) :: r) st) : Ok g M R Z kc ks h pc (a0 :: a1 :: r) (.int x :: st) := k_istore_n hf (by show 1 < List.length _; simp only [List.length_cons]; omega) hs rfl k
theorem k_ast1 {a0 a1 : Option Value} {r : List (Option Value)} {x : Nat} (hf : md_f M pc = some (.astore_n 1, 1, n, x0, y0)) (hs : lc_1 a0 = true) (k : Ok g M R Z kc ks h n (a0 :: some (.ref x) :: r) st) : Ok g M R Z kc ks h pc (a0 :: a1 :: r) (.ref x :: st) := k_astore_n hf (by show 1 < List.length _; simp only [List.length_cons]; omega) hs rfl k
theorem k_lst1 {a0 a1 b : Option Value} {r : List (Option Value)} {x : Int64} (hf : md_f M pc = some (.lstore_n 1, 1, n, x0, y0)) (hs : lc_1 a0 = true) (k : Ok g M R Z kc ks h n (a0 :: some (.long x) :: none :: r) st) : Ok g M R Z kc ks h pc (a0 :: a1 :: b :: r) (.long x :: st) := k_lstore_n hf (by show 1 + 1 < List.length _; simp only [List.length_cons]; omega) hs rfl k
theorem k_inc1 {a0 : Option Value} {r : List (Option Value)} {x : Int32} (hf : md_f M pc = some (.iinc 1 1, 3, n, x0, y0)) (hs : lc_1 a0 = true) (k : Ok g M R Z kc ks h n (a0 :: some (.int (x + 1)) :: r) st) : Ok g M R Z kc ks h pc (a0 :: some (.int x) :: r) st := k_iinc hf rfl rfl hs rfl k
theorem k_incN1 {a0 : Option Value} {r : List (Option Value)} {j : Nat} (hf : md_f M pc = some (.iinc 1 1, 3, n, x0, y0)) (hs : lc_1 a0 = true) (k : Ok g M R Z kc ks h n (a0 :: some (.int (nI (j + 1))) :: r) st) : Ok g M R Z kc ks h pc (a0 :: some (.int (nI j)) :: r) st := k_iinc hf rfl (nI_1 j) hs rfl k
theorem k_decN1 {a0 : Option Value} {r : List (Option Value)} {j : Nat} (hf : md_f M pc = some (.iinc 1 (-1), 3, n, x0, y0)) (hs : lc_1 a0 = true) (k : Ok g M R Z kc ks h n (a0 :: some (.int (nI j)) :: r) st) : Ok g M R Z kc ks h pc (a0 :: some (.int (nI (j + 1))) :: r) st := k_iinc hf rfl (pk_m1 j) hs rfl k
theorem k_ist2 {a0 a1 a2 : Option Value} {r : List (Option Value)} {x : Int32} (hf : md_f M pc = some (.istore_n 2, 1, n, x0, y0)) (hs : lc_1 a1 = true) (k : Ok g M R Z kc ks h n (a0 :: a1 :: some (.int x) :: r) st) : Ok g M R Z kc ks h pc (a0 :: a1 :: a2 :: r) (.int x :: st) := k_istore_n hf (by show 2 < List.length _; simp only [List.length_cons]; omega) hs rfl k
theorem k_ast2 {a0 a1 a2 : Option Value} {r : List (Option Value)} {x : Nat} (hf : md_f M pc = some (.astore_n 2, 1, n, x0, y0)) (hs : lc_1 a1 = true) (k : Ok g M R Z kc ks h n (a0 :: a1 :: some (.ref x) :: r) st) : Ok g M R Z kc ks h pc (a0 :: a1 :: a2 :: r) (.ref x :: st) := k_astore_n hf (by show 2 < List.length _; simp only [List.length_cons]; omega) hs rfl k
theorem k_lst2 {a0 a1 a2 b : Option Value} {r : List (Option Value)} {x : Int64} (hf : md_f M pc = some (.lstore_n 2, 1, n, x0, y0)) (hs : lc_1 a1 = true) (k : Ok g M R Z kc ks h n (a0 :: a1 :: some (.long x) :: none :: r) st) : Ok g M R Z kc ks h pc (a0 :: a1 :: a2 :: b :: r) (.long x :: st) := k_lstore_n hf (by show 2 + 1 < List.length _; simp only [List.length_cons]; omega) hs rfl k
theorem k_inc2 {a0 a1 : Option Value} {r : List (Option Value)} {x : Int32} (hf : md_f M pc = some (.iinc 2 1, 3, n, x0, y0)) (hs : lc_1 a1 = true) (k : Ok g M R Z kc ks h n (a0 :: a1 :: some (.int (x + 1)) :: r) st) : Ok g M R Z kc ks h pc (a0 :: a1 :: some (.int x) :: r) st := k_iinc hf rfl rfl hs rfl k
theorem k_incN2 {a0 a1 : Option Value} {r : List (Option Value)} {j : Nat} (hf : md_f M pc = some (.iinc 2 1, 3, n, x0, y0)) (hs : lc_1 a1 = true) (k : Ok g M R Z kc ks h n (a0 :: a1 :: some (.int (nI (j + 1))) :: r) st) : Ok g M R Z kc ks h pc (a0 :: a1 :: some (.int (nI j)) :: r) st := k_iinc hf rfl (nI_1 j) hs rfl k
theorem k_decN2 {a0 a1 : Option Value} {r : List (Option Value)} {j : Nat} (hf : md_f M pc = some (.iinc 2 (-1), 3, n, x0, y0)) (hs : lc_1 a1 = true) (k : Ok g M R Z kc ks h n (a0 :: a1 :: some (.int (nI j)) :: r) st) : Ok g M R Z kc ks h pc (a0 :: a1 :: some (.int (nI (j + 1))) :: r) st := k_iinc hf rfl (pk_m1 j) hs rfl k
theorem k_ist3 {a0 a1 a2 a3 : Option Value} {r : List (Option Value)} {x : Int32} (hf : md_f M pc = some (.istore_n 3, 1, n, x0, y0)) (hs : lc_1 a2 = true) (k : Ok g M R Z kc ks h n (a0 :: a1 :: a2 :: some (.int x) :: r) st) : Ok g M R Z kc ks h pc (a0 :: a1 :: a2 :: a3 :: r) (.int x :: st) := k_istore_n hf (by show 3 < List.length _; simp only [List.length_cons]; omega) hs rfl k
theorem k_ast3 {a0 a1 a2 a3 : Option Value} {r : List (Option Value)} {x : Nat} (hf : md_f M pc = some (.astore_n 3, 1, n, x0, y0)) (hs : lc_1 a2 = true) (k : Ok g M R Z kc ks h n (a0 :: a1 :: a2 :: some (.ref x) :: r) st) : Ok g M R Z kc ks h pc (a0 :: a1 :: a2 :: a3 :: r) (.ref x :: st) := k_astore_n hf (by show 3 < List.length _; simp only [List.length_cons]; omega) hs rfl k
theorem k_lst3 {a0 a1 a2 a3 b : Option Value} {r : List (Option Value)} {x : Int64} (hf : md_f M pc = some (.lstore_n 3, 1, n, x0, y0)) (hs : lc_1 a2 = true) (k : Ok g M R Z kc ks h n (a0 :: a1 :: a2 :: some (.long x) :: none :: r) st) : Ok g M R Z kc ks h pc (a0 :: a1 :: a2 :: a3 :: b :: r) (.long x :: st) := k_lstore_n hf (by show 3 + 1 < List.length _; simp only [List.length_cons]; omega) hs rfl k
theorem k_inc3 {a0 a1 a2 : Option Value} {r : List (Option Value)} {x : Int32} (hf : md_f M pc = some (.iinc 3 1, 3, n, x0, y0)) (hs : lc_1 a2 = true) (k : Ok g M R Z kc ks h n (a0 :: a1 :: a2 :: some (.int (x + 1)) :: r) st) : Ok g M R Z kc ks h pc (a0 :: a1 :: a2 :: some (.int x) :: r) st := k_iinc hf rfl rfl hs rfl k
theorem k_incN3 {a0 a1 a2 : Option Value} {r : List (Option Value)} {j : Nat} (hf : md_f M pc = some (.iinc 3 1, 3, n, x0, y0)) (hs : lc_1 a2 = true) (k : Ok g M R Z kc ks h n (a0 :: a1 :: a2 :: some (.int (nI (j + 1))) :: r) st) : Ok g M R Z kc ks h pc (a0 :: a1 :: a2 :: some (.int (nI j)) :: r) st := k_iinc hf rfl (nI_1 j) hs rfl k
theorem k_decN3 {a0 a1 a2 : Option Value} {r : List (Option Value)} {j : Nat} (hf : md_f M pc = some (.iinc 3 (-1), 3, n, x0, y0)) (hs : lc_1 a2 = true) (k : Ok g M R Z kc ks h n (a0 :: a1 :: a2 :: some (.int (nI j)) :: r) st) : Ok g M R Z kc ks h pc (a0 :: a1 :: a2 :: some (.int (nI (j + 1))) :: r) st := k_iinc hf rfl (pk_m1 j) hs rfl k
theorem k_ist4 {a0 a1 a2 a3 a4 : Option Value} {r : List (Option Value)} {x : Int32} (hf : md_f M pc = some (.istore 4, 2, n, x0, y0)) (hs : lc_1 a3 = true) (k : Ok g M R Z kc ks h n (a0 :: a1 :: a2 :: a3 :: some (.int x) :: r) st) : Ok g M R Z kc ks h pc (a0 :: a1 :: a2 :: a3 :: a4 :: r) (.int x :: st) := k_istore hf (by show 4 < List.length _; simp only [List.length_cons]; omega) hs rfl k
theorem k_ast4 {a0 a1 a2 a3 a4 : Option Value} {r : List (Option Value)} {x : Nat} (hf : md_f M pc = some (.astore 4, 2, n, x0, y0)) (hs : lc_1 a3 = true) (k : Ok g M R Z kc ks h n (a0 :: a1 :: a2 :: a3 :: some (.ref x) :: r) st) : Ok g M R Z kc ks h pc (a0 :: a1 :: a2 :: a3 :: a4 :: r) (.ref x :: st) := k_astore hf (by show 4 < List.length _; simp only [List.length_cons]; omega) hs rfl k
theorem k_lst4 {a0 a1 a2 a3 a4 b : Option Value} {r : List (Option Value)} {x : Int64} (hf : md_f M pc = some (.lstore 4, 2, n, x0, y0)) (hs : lc_1 a3 = true) (k : Ok g M R Z kc ks h n (a0 :: a1 :: a2 :: a3 :: some (.long x) :: none :: r) st) : Ok g M R Z kc ks h pc (a0 :: a1 :: a2 :: a3 :: a4 :: b :: r) (.long x :: st) := k_lstore hf (by show 4 + 1 < List.length _; simp only [List.length_cons]; omega) hs rfl k
theorem k_inc4 {a0 a1 a2 a3 : Option Value} {r : List (Option Value)} {x : Int32} (hf : md_f M pc = some (.iinc 4 1, 3, n, x0, y0)) (hs : lc_1 a3 = true) (k : Ok g M R Z kc ks h n (a0 :: a1 :: a2 :: a3 :: some (.int (x + 1)) :: r) st) : Ok g M R Z kc ks h pc (a0 :: a1 :: a2 :: a3 :: some (.int x) :: r) st := k_iinc hf rfl rfl hs rfl k
theorem k_incN4 {a0 a1 a2 a3 : Option Value} {r : List (Option Value)} {j : Nat} (hf : md_f M pc = some (.iinc 4 1, 3, n, x0, y0)) (hs : lc_1 a3 = true) (k : Ok g M R Z kc ks h n (a0 :: a1 :: a2 :: a3 :: some (.int (nI (j + 1))) :: r) st) : Ok g M R Z kc ks h pc (a0 :: a1 :: a2 :: a3 :: some (.int (nI j)) :: r) st := k_iinc hf rfl (nI_1 j) hs rfl k
theorem k_decN4 {a0 a1 a2 a3 : Option Value} {r : List (Option Value)} {j : Nat} (hf : md_f M pc = some (.iinc 4 (-1), 3, n, x0, y0)) (hs : lc_1 a3 = true) (k : Ok g M R Z kc ks h n (a0 :: a1 :: a2 :: a3 :: some (.int (nI j)) :: r) st) : Ok g M R Z kc ks h pc (a0 :: a1 :: a2 :: a3 :: some (.int (nI (j + 1))) :: r) st := k_iinc hf rfl (pk_m1 j) hs rfl k
theorem k_ist5 {a0 a1 a2 a3 a4 a5 : Option Value} {r : List (Option Value)} {x : Int32} (hf : md_f M pc = some (.istore 5, 2, n, x0, y0)) (hs : lc_1 a4 = true) (k : Ok g M R Z kc ks h n (a0 :: a1 :: a2 :: a3 :: a4 :: some (.int x) :: r) st) : Ok g M R Z kc ks h pc (a0 :: a1 :: a2 :: a3 :: a4 :: a5 :: r) (.int x :: st) := k_istore hf (by show 5 < List.length _; simp only [List.length_cons]; omega) hs rfl k
theorem k_ast5 {a0 a1 a2 a3 a4 a5 : Option Value} {r : List (Option Value)} {x : Nat} (hf : md_f M pc = some (.astore 5, 2, n, x0, y0)) (hs : lc_1 a4 = true) (k : Ok g M R Z kc ks h n (a0 :: a1 :: a2 :: a3 :: a4 :: some (.ref x) :: r) st) : Ok g M R Z kc ks h pc (a0 :: a1 :: a2 :: a3 :: a4 :: a5 :: r) (.ref x :: st) := k_astore hf (by show 5 < List.length _; simp only [List.length_cons]; omega) hs rfl k
theorem k_lst5 {a0 a1 a2 a3 a4 a5 b : Option Value} {r : List (Option Value)} {x : Int64} (hf : md_f M pc = some (.lstore 5, 2, n, x0, y0)) (hs : lc_1 a4 = true) (k : Ok g M R Z kc ks h n (a0 :: a1 :: a2 :: a3 :: a4 :: some (.long x) :: none :: r) st) : Ok g M R Z kc ks h pc (a0 :: a1 :: a2 :: a3 :: a4 :: a5 :: b :: r) (.long x :: st) := k_lstore hf (by show 5 + 1 < List.length _; simp only [List.length_cons]; omega) hs rfl k
theorem k_inc5 {a0 a1 a2 a3 a4 : Option Value} {r : List (Option Value)} {x : Int32} (hf : md_f M pc = some (.iinc 5 1, 3, n, x0, y0)) (hs : lc_1 a4 = true) (k : Ok g M R Z kc ks h n (a0 :: a1 :: a2 :: a3 :: a4 :: some (.int (x + 1)) :: r) st) : Ok g M R Z kc ks h pc (a0 :: a1 :: a2 :: a3 :: a4 :: some (.int x) :: r) st := k_iinc hf rfl rfl hs rfl k
theorem k_incN5 {a0 a1 a2 a3 a4 : Option Value} {r : List (Option Value)} {j : Nat} (hf : md_f M pc = some (.iinc 5 1, 3, n, x0, y0)) (hs : lc_1 a4 = true) (k : Ok g M R Z kc ks h n (a0 :: a1 :: a2 :: a3 :: a4 :: some (.int (nI (j + 1))) :: r) st) : Ok g M R Z kc ks h pc (a0 :: a1 :: a2 :: a3 :: a4 :: some (.int (nI j)) :: r) st := k_iinc hf rfl (nI_1 j) hs rfl k
theorem k_decN5 {a0 a1 a2 a3 a4 : Option Value} {r : List (Option Value)} {j : Nat} (hf : md_f M pc = some (.iinc 5 (-1), 3, n, x0, y0)) (hs : lc_1 a4 = true) (k : Ok g M R Z kc ks h n (a0 :: a1 :: a2 :: a3 :: a4 :: some (.int (nI j)) :: r) st) : Ok g M R Z kc ks h pc (a0 :: a1 :: a2 :: a3 :: a4 :: some (.int (nI (j + 1))) :: r) st := k_iinc hf rfl (pk_m1 j) hs rfl k
theorem k_ist6 {a0 a1 a2 a3 a4 a5 a6 : Option Value} {r : List (Option Value)} {x : Int32} (hf : md_f M pc = some (.istore 6, 2, n, x0, y0)) (hs : lc_1 a5 = true) (k : Ok g M R Z kc ks h n (a0 :: a1 :: a2 :: a3 :: a4 :: a5 :: some (.int x) :: r) st) : Ok g M R Z kc ks h pc (a0 :: a1 :: a2 :: a3 :: a4 :: a5 :: a6 :: r) (.int x :: st) := k_istore hf (by show 6 < List.length _; simp only [List.length_cons]; omega) hs rfl k
theorem k_ast6 {a0 a1 a2 a3 a4 a5 a6 : Option Value} {r : List (Option Value)} {x : Nat} (hf : md_f M pc = some (.astore 6, 2, n, x0, y0)) (hs : lc_1 a5 = true) (k : Ok g M R Z kc ks h n (a0 :: a1 :: a2 :: a3 :: a4 :: a5 :: some (.ref x) :: r) st) : Ok g M R Z kc ks h pc (a0 :: a1 :: a2 :: a3 :: a4 :: a5 :: a6 :: r) (.ref x :: st) := k_astore hf (by show 6 < List.length _; simp only [List.length_cons]; omega) hs rfl k
theorem k_lst6 {a0 a1 a2 a3 a4 a5 a6 b : Option Value} {r : List (Option Value)} {x : Int64} (hf : md_f M pc = some (.lstore 6, 2, n, x0, y0)) (hs : lc_1 a5 = true) (k : Ok g M R Z kc ks h n (a0 :: a1 :: a2 :: a3 :: a4 :: a5 :: some (.long x) :: none :: r) st) : Ok g M R Z kc ks h pc (a0 :: a1 :: a2 :: a3 :: a4 :: a5 :: a6 :: b :: r) (.long x :: st) := k_lstore hf (by show 6 + 1 < List.length _; simp only [List.length_cons]; omega) hs rfl k
theorem k_inc6 {a0 a1 a2 a3 a4 a5 : Option Value} {r : List (Option Value)} {x : Int32} (hf : md_f M pc = some (.iinc 6 1, 3, n, x0, y0)) (hs : lc_1 a5 = true) (k : Ok g M R Z kc ks h n (a0 :: a1 :: a2 :: a3 :: a4 :: a5 :: some (.int (x + 1)) :: r) st) : Ok g M R Z kc ks h pc (a0 :: a1 :: a2 :: a3 :: a4 :: a5 :: some (.int x) :: r) st := k_iinc hf rfl rfl hs rfl k
theorem k_incN6 {a0 a1 a2 a3 a4 a5 : Option Value} {r : List (Option Value)} {j : Nat} (hf : md_f M pc = some (.iinc 6 1, 3, n, x0, y0)) (hs : lc_1 a5 = true) (k : Ok g M R Z kc ks h n (a0 :: a1 :: a2 :: a3 :: a4 :: a5 :: some (.int (nI (j + 1))) :: r) st) : Ok g M R Z kc ks h pc (a0 :: a1 :: a2 :: a3 :: a4 :: a5 :: some (.int (nI j)) :: r) st := k_iinc hf rfl (nI_1 j) hs rfl k
theorem k_decN6 {a0 a1 a2 a3 a4 a5 : Option Value} {r : List (Option Value)} {j : Nat} (hf : md_f M pc = some (.iinc 6 (-1), 3, n, x0, y0)) (hs : lc_1 a5 = true) (k : Ok g M R Z kc ks h n (a0 :: a1 :: a2 :: a3 :: a4 :: a5 :: some (.int (nI j)) :: r) st) : Ok g M R Z kc ks h pc (a0 :: a1 :: a2 :: a3 :: a4 :: a5 :: some (.int (nI (j + 1))) :: r) st := k_iinc hf rfl (pk_m1 j) hs rfl k
theorem k_ist7 {a0 a1 a2 a3 a4 a5 a6 a7 : Option Value} {r : List (Option Value)} {x : Int32} (hf : md_f M pc = some (.istore 7, 2, n, x0, y0)) (hs : lc_1 a6 = true) (k : Ok g M R Z kc ks h n (a0 :: a1 :: a2 :: a3 :: a4 :: a5 :: a6 :: some (.int x) :: r) st) : Ok g M R Z kc ks h pc (a0 :: a1 :: a2 :: a3 :: a4 :: a5 :: a6 :: a7 :: r) (.int x :: st) := k_istore hf (by show 7 < List.length _; simp only [List.length_cons]; omega) hs rfl k
theorem k_ast7 {a0 a1 a2 a3 a4 a5 a6 a7 : Option Value} {r : List (Option Value)} {x : Nat} (hf : md_f M pc = some (.astore 7, 2, n, x0, y0)) (hs : lc_1 a6 = true) (k : Ok g M R Z kc ks h n (a0 :: a1 :: a2 :: a3 :: a4 :: a5 :: a6 :: some (.ref x) :: r) st) : Ok g M R Z kc ks h pc (a0 :: a1 :: a2 :: a3 :: a4 :: a5 :: a6 :: a7 :: r) (.ref x :: st) := k_astore hf (by show 7 < List.length _; simp only [List.length_cons]; omega) hs rfl k
theorem k_lst7 {a0 a1 a2 a3 a4 a5 a6 a7 b : Option Value} {r : List (Option Value)} {x : Int64} (hf : md_f M pc = some (.lstore 7, 2, n, x0, y0)) (hs : lc_1 a6 = true) (k : Ok g M R Z kc ks h n (a0 :: a1 :: a2 :: a3 :: a4 :: a5 :: a6 :: some (.long x) :: none :: r) st) : Ok g M R Z kc ks h pc (a0 :: a1 :: a2 :: a3 :: a4 :: a5 :: a6 :: a7 :: b :: r) (.long x :: st) := k_lstore hf (by show 7 + 1 < List.length _; simp only [List.length_cons]; omega) hs rfl k
theorem k_inc7 {a0 a1 a2 a3 a4 a5 a6 : Option Value} {r : List (Option Value)} {x : Int32} (hf : md_f M pc = some (.iinc 7 1, 3, n, x0, y0)) (hs : lc_1 a6 = true) (k : Ok g M R Z kc ks h n (a0 :: a1 :: a2 :: a3 :: a4 :: a5 :: a6 :: some (.int (x + 1)) :: r) st) : Ok g M R Z kc ks h pc (a0 :: a1 :: a2 :: a3 :: a4 :: a5 :: a6 :: some (.int x) :: r) st := k_iinc hf rfl rfl hs rfl k
theorem k_incN7 {a0 a1 a2 a3 a4 a5 a6 : Option Value} {r : List (Option Value)} {j : Nat} (hf : md_f M pc = some (.iinc 7 1, 3, n, x0, y0)) (hs : lc_1 a6 = true) (k : Ok g M R Z kc ks h n (a0 :: a1 :: a2 :: a3 :: a4 :: a5 :: a6 :: some (.int (nI (j + 1))) :: r) st) : Ok g M R Z kc ks h pc (a0 :: a1 :: a2 :: a3 :: a4 :: a5 :: a6 :: some (.int (nI j)) :: r) st := k_iinc hf rfl (nI_1 j) hs rfl k
theorem k_decN7 {a0 a1 a2 a3 a4 a5 a6 : Option Value} {r : List (Option Value)} {j : Nat} (hf : md_f M pc = some (.iinc 7 (-1), 3, n, x0, y0)) (hs : lc_1 a6 = true) (k : Ok g M R Z kc ks h n (a0 :: a1 :: a2 :: a3 :: a4 :: a5 :: a6 :: some (.int (nI j)) :: r) st) : Ok g M R Z kc ks h pc (a0 :: a1 :: a2 :: a3 :: a4 :: a5 :: a6 :: some (.int (nI (j + 1))) :: r) st := k_iinc hf rfl (pk_m1 j) hs rfl k
theorem k_ist8 {a0 a1 a2 a3 a4 a5 a6 a7 a8 : Option Value} {r : List (Option Value)} {x : Int32} (hf : md_f M pc = some (.istore 8, 2, n, x0, y0)) (hs : lc_1 a7 = true) (k : Ok g M R Z kc ks h n (a0 :: a1 :: a2 :: a3 :: a4 :: a5 :: a6 :: a7 :: some (.int x) :: r) st) : Ok g M R Z kc ks h pc (a0 :: a1 :: a2 :: a3 :: a4 :: a5 :: a6 :: a7 :: a8 :: r) (.int x :: st) := k_istore hf (by show 8 < List.length _; simp only [List.length_cons]; omega) hs rfl k
theorem k_ast8 {a0 a1 a2 a3 a4 a5 a6 a7 a8 : Option Value} {r : List (Option Value)} {x : Nat} (hf : md_f M pc = some (.astore 8, 2, n, x0, y0)) (hs : lc_1 a7 = true) (k : Ok g M R Z kc ks h n (a0 :: a1 :: a2 :: a3 :: a4 :: a5 :: a6 :: a7 :: some (.ref x) :: r) st) : Ok g M R Z kc ks h pc (a0 :: a1 :: a2 :: a3 :: a4 :: a5 :: a6 :: a7 :: a8 :: r) (.ref x :: st) := k_astore hf (by show 8 < List.length _; simp only [List.length_cons]; omega) hs rfl k
theorem k_lst8 {a0 a1 a2 a3 a4 a5 a6 a7 a8 b : Option Value} {r : List (Option Value)} {x : Int64} (hf : md_f M pc = some (.lstore 8, 2, n, x0, y0)) (hs : lc_1 a7 = true) (k : Ok g M R Z kc ks h n (a0 :: a1 :: a2 :: a3 :: a4 :: a5 :: a6 :: a7 :: some (.long x) :: none :: r) st) : Ok g M R Z kc ks h pc (a0 :: a1 :: a2 :: a3 :: a4 :: a5 :: a6 :: a7 :: a8 :: b :: r) (.long x :: st) := k_lstore hf (by show 8 + 1 < List.length _; simp only [List.length_cons]; omega) hs rfl k
theorem k_inc8 {a0 a1 a2 a3 a4 a5 a6 a7 : Option Value} {r : List (Option Value)} {x : Int32} (hf : md_f M pc = some (.iinc 8 1, 3, n, x0, y0)) (hs : lc_1 a7 = true) (k : Ok g M R Z kc ks h n (a0 :: a1 :: a2 :: a3 :: a4 :: a5 :: a6 :: a7 :: some (.int (x + 1)) :: r) st) : Ok g M R Z kc ks h pc (a0 :: a1 :: a2 :: a3 :: a4 :: a5 :: a6 :: a7 :: some (.int x) :: r) st := k_iinc hf rfl rfl hs rfl k
theorem k_incN8 {a0 a1 a2 a3 a4 a5 a6 a7 : Option Value} {r : List (Option Value)} {j : Nat} (hf : md_f M pc = some (.iinc 8 1, 3, n, x0, y0)) (hs : lc_1 a7 = true) (k : Ok g M R Z kc ks h n (a0 :: a1 :: a2 :: a3 :: a4 :: a5 :: a6 :: a7 :: some (.int (nI (j + 1))) :: r) st) : Ok g M R Z kc ks h pc (a0 :: a1 :: a2 :: a3 :: a4 :: a5 :: a6 :: a7 :: some (.int (nI j)) :: r) st := k_iinc hf rfl (nI_1 j) hs rfl k
theorem k_decN8 {a0 a1 a2 a3 a4 a5 a6 a7 : Option Value} {r : List (Option Value)} {j : Nat} (hf : md_f M pc = some (.iinc 8 (-1), 3, n, x0, y0)) (hs : lc_1 a7 = true) (k : Ok g M R Z kc ks h n (a0 :: a1 :: a2 :: a3 :: a4 :: a5 :: a6 :: a7 :: some (.int (nI j)) :: r) st) : Ok g M R Z kc ks h pc (a0 :: a1 :: a2 :: a3 :: a4 :: a5 :: a6 :: a7 :: some (.int (nI (j + 1))) :: r) st := k_iinc hf rfl (pk_m1 j) hs rfl k
theorem k_ist9 {a0 a1 a2 a3 a4 a5 a6 a7 a8 a9 : Option Value} {r : List (Option Value)} {x : Int32} (hf : md_f M pc = some (.istore 9, 2, n, x0, y0)) (hs : lc_1 a8 = true) (k : Ok g M R Z kc ks h n (a0 :: a1 :: a2 :: a3 :: a4 :: a5 :: a6 :: a7 :: a8 :: some (.int x) :: r) st) : Ok g M R Z kc ks h pc (a0 :: a1 :: a2 :: a3 :: a4 :: a5 :: a6 :: a7 :: a8 :: a9 :: r) (.int x :: st) := k_istore hf (by show 9 < List.length _; simp only [List.length_cons]; omega) hs rfl k
theorem k_ast9 {a0 a1 a2 a3 a4 a5 a6 a7 a8 a9 : Option Value} {r : List (Option Value)} {x : Nat} (hf : md_f M pc = some (.astore 9, 2, n, x0, y0)) (hs : lc_1 a8 = true) (k : Ok g M R Z kc ks h n (a0 :: a1 :: a2 :: a3 :: a4 :: a5 :: a6 :: a7 :: a8 :: some (.ref x) :: r) st) : Ok g M R Z kc ks h pc (a0 :: a1 :: a2 :: a3 :: a4 :: a5 :: a6 :: a7 :: a8 :: a9 :: r) (.ref x :: st) := k_astore hf (by show 9 < List.length _; simp only [List.length_cons]; omega) hs rfl k
theorem k_lst9 {a0 a1 a2 a3 a4 a5 a6 a7 a8 a9 b : Option Value} {r : List (Option Value)} {x : Int64} (hf : md_f M pc = some (.lstore 9, 2, n, x0, y0)) (hs : lc_1 a8 = true) (k : Ok g M R Z kc ks h n (a0 :: a1 :: a2 :: a3 :: a4 :: a5 :: a6 :: a7 :: a8 :: some (.long x) :: none :: r) st) : Ok g M R Z kc ks h pc (a0 :: a1 :: a2 :: a3 :: a4 :: a5 :: a6 :: a7 :: a8 :: a9 :: b :: r) (.long x :: st) := k_lstore hf (by show 9 + 1 < List.length _; simp only [List.length_cons]; omega) hs rfl k
theorem k_inc9 {a0 a1 a2 a3 a4 a5 a6 a7 a8 : Option Value} {r : List (Option Value)} {x : Int32} (hf : md_f M pc = some (.iinc 9 1, 3, n, x0, y0)) (hs : lc_1 a8 = true) (k : Ok g M R Z kc ks h n (a0 :: a1 :: a2 :: a3 :: a4 :: a5 :: a6 :: a7 :: a8 :: some (.int (x + 1)) :: r) st) : Ok g M R Z kc ks h pc (a0 :: a1 :: a2 :: a3 :: a4 :: a5 :: a6 :: a7 :: a8 :: some (.int x) :: r) st := k_iinc hf rfl rfl hs rfl k
theorem k_incN9 {a0 a1 a2 a3 a4 a5 a6 a7 a8 : Option Value} {r : List (Option Value)} {j : Nat} (hf : md_f M pc = some (.iinc 9 1, 3, n, x0, y0)) (hs : lc_1 a8 = true) (k : Ok g M R Z kc ks h n (a0 :: a1 :: a2 :: a3 :: a4 :: a5 :: a6 :: a7 :: a8 :: some (.int (nI (j + 1))) :: r) st) : Ok g M R Z kc ks h pc (a0 :: a1 :: a2 :: a3 :: a4 :: a5 :: a6 :: a7 :: a8 :: some (.int (nI j)) :: r) st := k_iinc hf rfl (nI_1 j) hs rfl k
theorem k_decN9 {a0 a1 a2 a3 a4 a5 a6 a7 a8 : Option Value} {r : List (Option Value)} {j : Nat} (hf : md_f M pc = some (.iinc 9 (-1), 3, n, x0, y0)) (hs : lc_1 a8 = true) (k : Ok g M R Z kc ks h n (a0 :: a1 :: a2 :: a3 :: a4 :: a5 :: a6 :: a7 :: a8 :: some (.int (nI j)) :: r) st) : Ok g M R Z kc ks h pc (a0 :: a1 :: a2 :: a3 :: a4 :: a5 :: a6 :: a7 :: a8 :: some (.int (nI (j + 1))) :: r) st := k_iinc hf rfl (pk_m1 j) hs rfl k
theorem k_ist10 {a0 a1 a2 a3 a4 a5 a6 a7 a8 a9 a10 : Option Value} {r : List (Option Value)} {x : Int32} (hf : md_f M pc = some (.istore 10, 2, n, x0, y0)) (hs : lc_1 a9 = true) (k : Ok g M R Z kc ks h n (a0 :: a1 :: a2 :: a3 :: a4 :: a5 :: a6 :: a7 :: a8 :: a9 :: some (.int x) :: r) st) : Ok g M R Z kc ks h pc (a0 :: a1 :: a2 :: a3 :: a4 :: a5 :: a6 :: a7 :: a8 :: a9 :: a10 :: r) (.int x :: st) := k_istore hf (by show 10 < List.length _; simp only [List.length_cons]; omega) hs rfl k
theorem k_ast10 {a0 a1 a2 a3 a4 a5 a6 a7 a8 a9 a10 : Option Value} {r : List (Option Value)} {x : Nat} (hf : md_f M pc = some (.astore 10, 2, n, x0, y0)) (hs : lc_1 a9 = true) (k : Ok g M R Z kc ks h n (a0 :: a1 :: a2 :: a3 :: a4 :: a5 :: a6 :: a7 :: a8 :: a9 :: some (.ref x) :: r) st) : Ok g M R Z kc ks h pc (a0 :: a1 :: a2 :: a3 :: a4 :: a5 :: a6 :: a7 :: a8 :: a9 :: a10 :: r) (.ref x :: st) := k_astore hf (by show 10 < List.length _; simp only [List.length_cons]; omega) hs rfl k
theorem k_lst10 {a0 a1 a2 a3 a4 a5 a6 a7 a8 a9 a10 b : Option Value} {r : List (Option Value)} {x : Int64} (hf : md_f M pc = some (.lstore 10, 2, n, x0, y0)) (hs : lc_1 a9 = true) (k : Ok g M R Z kc ks h n (a0 :: a1 :: a2 :: a3 :: a4 :: a5 :: a6 :: a7 :: a8 :: a9 :: some (.long x) :: none :: r) st) : Ok g M R Z kc ks h pc (a0 :: a1 :: a2 :: a3 :: a4 :: a5 :: a6 :: a7 :: a8 :: a9 :: a10 :: b :: r) (.long x :: st) := k_lstore hf (by show 10 + 1 < List.length _; simp only [List.length_cons]; omega) hs rfl k
theorem k_inc10 {a0 a1 a2 a3 a4 a5 a6 a7 a8 a9 : Option Value} {r : List (Option Value)} {x : Int32} (hf : md_f M pc = some (.iinc 10 1, 3, n, x0, y0)) (hs : lc_1 a9 = true) (k : Ok g M R Z kc ks h n (a0 :: a1 :: a2 :: a3 :: a4 :: a5 :: a6 :: a7 :: a8 :: a9 :: some (.int (x + 1)) :: r) st) : Ok g M R Z kc ks h pc (a0 :: a1 :: a2 :: a3 :: a4 :: a5 :: a6 :: a7 :: a8 :: a9 :: some (.int x) :: r) st := k_iinc hf rfl rfl hs rfl k
theorem k_incN10 {a0 a1 a2 a3 a4 a5 a6 a7 a8 a9 : Option Value} {r : List (Option Value)} {j : Nat} (hf : md_f M pc = some (.iinc 10 1, 3, n, x0, y0)) (hs : lc_1 a9 = true) (k : Ok g M R Z kc ks h n (a0 :: a1 :: a2 :: a3 :: a4 :: a5 :: a6 :: a7 :: a8 :: a9 :: some (.int (nI (j + 1))) :: r) st) : Ok g M R Z kc ks h pc (a0 :: a1 :: a2 :: a3 :: a4 :: a5 :: a6 :: a7 :: a8 :: a9 :: some (.int (nI j)) :: r) st := k_iinc hf rfl (nI_1 j) hs rfl k
theorem k_decN10 {a0 a1 a2 a3 a4 a5 a6 a7 a8 a9 : Option Value} {r : List (Option Value)} {j : Nat} (hf : md_f M pc = some (.iinc 10 (-1), 3, n, x0, y0)) (hs : lc_1 a9 = true) (k : Ok g M R Z kc ks h n (a0 :: a1 :: a2 :: a3 :: a4 :: a5 :: a6 :: a7 :: a8 :: a9 :: some (.int (nI j)) :: r) st) : Ok g M R Z kc ks h pc (a0 :: a1 :: a2 :: a3 :: a4 :: a5 :: a6 :: a7 :: a8 :: a9 :: some (.int (nI (j + 1))) :: r) st := k_iinc hf rfl (pk_m1 j) hs rfl k
theorem k_ist11 {a0 a1 a2 a3 a4 a5 a6 a7 a8 a9 a10 a11 : Option Value} {r : List (Option Value)} {x : Int32} (hf : md_f M pc = some (.istore 11, 2, n, x0, y0)) (hs : lc_1 a10 = true) (k : Ok g M R Z kc ks h n (a0 :: a1 :: a2 :: a3 :: a4 :: a5 :: a6 :: a7 :: a8 :: a9 :: a10 :: some (.int x) :: r) st) : Ok g M R Z kc ks h pc (a0 :: a1 :: a2 :: a3 :: a4 :: a5 :: a6 :: a7 :: a8 :: a9 :: a10 :: a11 :: r) (.int x :: st) := k_istore hf (by show 11 < List.length _; simp only [List.length_cons]; omega) hs rfl k
theorem k_ast11 {a0 a1 a2 a3 a4 a5 a6 a7 a8 a9 a10 a11 : Option Value} {r : List (Option Value)} {x : Nat} (hf : md_f M pc = some (.astore 11, 2, n, x0, y0)) (hs : lc_1 a10 = true) (k : Ok g M R Z kc ks h n (a0 :: a1 :: a2 :: a3 :: a4 :: a5 :: a6 :: a7 :: a8 :: a9 :: a10 :: some (.ref x) :: r) st) : Ok g M R Z kc ks h pc (a0 :: a1 :: a2 :: a3 :: a4 :: a5 :: a6 :: a7 :: a8 :: a9 :: a10 :: a11 :: r) (.ref x :: st) := k_astore hf (by show 11 < List.length _; simp only [List.length_cons]; omega) hs rfl k
theorem k_lst11 {a0 a1 a2 a3 a4 a5 a6 a7 a8 a9 a10 a11 b : Option Value} {r : List (Option Value)} {x : Int64} (hf : md_f M pc = some (.lstore 11, 2, n, x0, y0)) (hs : lc_1 a10 = true) (k : Ok g M R Z kc ks h n (a0 :: a1 :: a2 :: a3 :: a4 :: a5 :: a6 :: a7 :: a8 :: a9 :: a10 :: some (.long x) :: none :: r) st) : Ok g M R Z kc ks h pc (a0 :: a1 :: a2 :: a3 :: a4 :: a5 :: a6 :: a7 :: a8 :: a9 :: a10 :: a11 :: b :: r) (.long x :: st) := k_lstore hf (by show 11 + 1 < List.length _; simp only [List.length_cons]; omega) hs rfl k
theorem k_inc11 {a0 a1 a2 a3 a4 a5 a6 a7 a8 a9 a10 : Option Value} {r : List (Option Value)} {x : Int32} (hf : md_f M pc = some (.iinc 11 1, 3, n, x0, y0)) (hs : lc_1 a10 = true) (k : Ok g M R Z kc ks h n (a0 :: a1 :: a2 :: a3 :: a4 :: a5 :: a6 :: a7 :: a8 :: a9 :: a10 :: some (.int (x + 1)) :: r) st) : Ok g M R Z kc ks h pc (a0 :: a1 :: a2 :: a3 :: a4 :: a5 :: a6 :: a7 :: a8 :: a9 :: a10 :: some (.int x) :: r) st := k_iinc hf rfl rfl hs rfl k
theorem k_incN11 {a0 a1 a2 a3 a4 a5 a6 a7 a8 a9 a10 : Option Value} {r : List (Option Value)} {j : Nat} (hf : md_f M pc = some (.iinc 11 1, 3, n, x0, y0)) (hs : lc_1 a10 = true) (k : Ok g M R Z kc ks h n (a0 :: a1 :: a2 :: a3 :: a4 :: a5 :: a6 :: a7 :: a8 :: a9 :: a10 :: some (.int (nI (j + 1))) :: r) st) : Ok g M R Z kc ks h pc (a0 :: a1 :: a2 :: a3 :: a4 :: a5 :: a6 :: a7 :: a8 :: a9 :: a10 :: some (.int (nI j)) :: r) st := k_iinc hf rfl (nI_1 j) hs rfl k
theorem k_decN11 {a0 a1 a2 a3 a4 a5 a6 a7 a8 a9 a10 : Option Value} {r : List (Option Value)} {j : Nat} (hf : md_f M pc = some (.iinc 11 (-1), 3, n, x0, y0)) (hs : lc_1 a10 = true) (k : Ok g M R Z kc ks h n (a0 :: a1 :: a2 :: a3 :: a4 :: a5 :: a6 :: a7 :: a8 :: a9 :: a10 :: some (.int (nI j)) :: r) st) : Ok g M R Z kc ks h pc (a0 :: a1 :: a2 :: a3 :: a4 :: a5 :: a6 :: a7 :: a8 :: a9 :: a10 :: some (.int (nI (j + 1))) :: r) st := k_iinc hf rfl (pk_m1 j) hs rfl k
theorem k_ist12 {a0 a1 a2 a3 a4 a5 a6 a7 a8 a9 a10 a11 a12 : Option Value} {r : List (Option Value)} {x : Int32} (hf : md_f M pc = some (.istore 12, 2, n, x0, y0)) (hs : lc_1 a11 = true) (k : Ok g M R Z kc ks h n (a0 :: a1 :: a2 :: a3 :: a4 :: a5 :: a6 :: a7 :: a8 :: a9 :: a10 :: a11 :: some (.int x) :: r) st) : Ok g M R Z kc ks h pc (a0 :: a1 :: a2 :: a3 :: a4 :: a5 :: a6 :: a7 :: a8 :: a9 :: a10 :: a11 :: a12 :: r) (.int x :: st) := k_istore hf (by show 12 < List.length _; simp only [List.length_cons]; omega) hs rfl k
theorem k_ast12 {a0 a1 a2 a3 a4 a5 a6 a7 a8 a9 a10 a11 a12 : Option Value} {r : List (Option Value)} {x : Nat} (hf : md_f M pc = some (.astore 12, 2, n, x0, y0)) (hs : lc_1 a11 = true) (k : Ok g M R Z kc ks h n (a0 :: a1 :: a2 :: a3 :: a4 :: a5 :: a6 :: a7 :: a8 :: a9 :: a10 :: a11 :: some (.ref x) :: r) st) : Ok g M R Z kc ks h pc (a0 :: a1 :: a2 :: a3 :: a4 :: a5 :: a6 :: a7 :: a8 :: a9 :: a10 :: a11 :: a12 :: r) (.ref x :: st) := k_astore hf (by show 12 < List.length _; simp only [List.length_cons]; omega) hs rfl k
theorem k_lst12 {a0 a1 a2 a3 a4 a5 a6 a7 a8 a9 a10 a11 a12 b : Option Value} {r : List (Option Value)} {x : Int64} (hf : md_f M pc = some (.lstore 12, 2, n, x0, y0)) (hs : lc_1 a11 = true) (k : Ok g M R Z kc ks h n (a0 :: a1 :: a2 :: a3 :: a4 :: a5 :: a6 :: a7 :: a8 :: a9 :: a10 :: a11 :: some (.long x) :: none :: r) st) : Ok g M R Z kc ks h pc (a0 :: a1 :: a2 :: a3 :: a4 :: a5 :: a6 :: a7 :: a8 :: a9 :: a10 :: a11 :: a12 :: b :: r) (.long x :: st) := k_lstore hf (by show 12 + 1 < List.length _; simp only [List.length_cons]; omega) hs rfl k
theorem k_inc12 {a0 a1 a2 a3 a4 a5 a6 a7 a8 a9 a10 a11 : Option Value} {r : List (Option Value)} {x : Int32} (hf : md_f M pc = some (.iinc 12 1, 3, n, x0, y0)) (hs : lc_1 a11 = true) (k : Ok g M R Z kc ks h n (a0 :: a1 :: a2 :: a3 :: a4 :: a5 :: a6 :: a7 :: a8 :: a9 :: a10 :: a11 :: some (.int (x + 1)) :: r) st) : Ok g M R Z kc ks h pc (a0 :: a1 :: a2 :: a3 :: a4 :: a5 :: a6 :: a7 :: a8 :: a9 :: a10 :: a11 :: some (.int x) :: r) st := k_iinc hf rfl rfl hs rfl k
theorem k_incN12 {a0 a1 a2 a3 a4 a5 a6 a7 a8 a9 a10 a11 : Option Value} {r : List (Option Value)} {j : Nat} (hf : md_f M pc = some (.iinc 12 1, 3, n, x0, y0)) (hs : lc_1 a11 = true) (k : Ok g M R Z kc ks h n (a0 :: a1 :: a2 :: a3 :: a4 :: a5 :: a6 :: a7 :: a8 :: a9 :: a10 :: a11 :: some (.int (nI (j + 1))) :: r) st) : Ok g M R Z kc ks h pc (a0 :: a1 :: a2 :: a3 :: a4 :: a5 :: a6 :: a7 :: a8 :: a9 :: a10 :: a11 :: some (.int (nI j)) :: r) st := k_iinc hf rfl (nI_1 j) hs rfl k
theorem k_decN12 {a0 a1 a2 a3 a4 a5 a6 a7 a8 a9 a10 a11 : Option Value} {r : List (Option Value)} {j : Nat} (hf : md_f M pc = some (.iinc 12 (-1), 3, n, x0, y0)) (hs : lc_1 a11 = true) (k : Ok g M R Z kc ks h n (a0 :: a1 :: a2 :: a3 :: a4 :: a5 :: a6 :: a7 :: a8 :: a9 :: a10 :: a11 :: some (.int (nI j)) :: r) st) : Ok g M R Z kc ks h pc (a0 :: a1 :: a2 :: a3 :: a4 :: a5 :: a6 :: a7 :: a8 :: a9 :: a10 :: a11 :: some (.int (nI (j + 1))) :: r) st := k_iinc hf rfl (pk_m1 j) hs rfl k
theorem k_ist13 {a0 a1 a2 a3 a4 a5 a6 a7 a8 a9 a10 a11 a12 a13 : Option Value} {r : List (Option Value)} {x : Int32} (hf : md_f M pc = some (.istore 13, 2, n, x0, y0)) (hs : lc_1 a12 = true) (k : Ok g M R Z kc ks h n (a0 :: a1 :: a2 :: a3 :: a4 :: a5 :: a6 :: a7 :: a8 :: a9 :: a10 :: a11 :: a12 :: some (.int x) :: r) st) : Ok g M R Z kc ks h pc (a0 :: a1 :: a2 :: a3 :: a4 :: a5 :: a6 :: a7 :: a8 :: a9 :: a10 :: a11 :: a12 :: a13 :: r) (.int x :: st) := k_istore hf (by show 13 < List.length _; simp only [List.length_cons]; omega) hs rfl k
theorem k_ast13 {a0 a1 a2 a3 a4 a5 a6 a7 a8 a9 a10 a11 a12 a13 : Option Value} {r : List (Option Value)} {x : Nat} (hf : md_f M pc = some (.astore 13, 2, n, x0, y0)) (hs : lc_1 a12 = true) (k : Ok g M R Z kc ks h n (a0 :: a1 :: a2 :: a3 :: a4 :: a5 :: a6 :: a7 :: a8 :: a9 :: a10 :: a11 :: a12 :: some (.ref x) :: r) st) : Ok g M R Z kc ks h pc (a0 :: a1 :: a2 :: a3 :: a4 :: a5 :: a6 :: a7 :: a8 :: a9 :: a10 :: a11 :: a12 :: a13 :: r) (.ref x :: st) := k_astore hf (by show 13 < List.length _; simp only [List.length_cons]; omega) hs rfl k
theorem k_lst13 {a0 a1 a2 a3 a4 a5 a6 a7 a8 a9 a10 a11 a12 a13 b : Option Value} {r : List (Option Value)} {x : Int64} (hf : md_f M pc = some (.lstore 13, 2, n, x0, y0)) (hs : lc_1 a12 = true) (k : Ok g M R Z kc ks h n (a0 :: a1 :: a2 :: a3 :: a4 :: a5 :: a6 :: a7 :: a8 :: a9 :: a10 :: a11 :: a12 :: some (.long x) :: none :: r) st) : Ok g M R Z kc ks h pc (a0 :: a1 :: a2 :: a3 :: a4 :: a5 :: a6 :: a7 :: a8 :: a9 :: a10 :: a11 :: a12 :: a13 :: b :: r) (.long x :: st) := k_lstore hf (by show 13 + 1 < List.length _; simp only [List.length_cons]; omega) hs rfl k
theorem k_inc13 {a0 a1 a2 a3 a4 a5 a6 a7 a8 a9 a10 a11 a12 : Option Value} {r : List (Option Value)} {x : Int32} (hf : md_f M pc = some (.iinc 13 1, 3, n, x0, y0)) (hs : lc_1 a12 = true) (k : Ok g M R Z kc ks h n (a0 :: a1 :: a2 :: a3 :: a4 :: a5 :: a6 :: a7 :: a8 :: a9 :: a10 :: a11 :: a12 :: some (.int (x + 1)) :: r) st) : Ok g M R Z kc ks h pc (a0 :: a1 :: a2 :: a3 :: a4 :: a5 :: a6 :: a7 :: a8 :: a9 :: a10 :: a11 :: a12 :: some (.int x) :: r) st := k_iinc hf rfl rfl hs rfl k
theorem k_incN13 {a0 a1 a2 a3 a4 a5 a6 a7 a8 a9 a10 a11 a12 : Option Value} {r : List (Option Value)} {j : Nat} (hf : md_f M pc = some (.iinc 13 1, 3, n, x0, y0)) (hs : lc_1 a12 = true) (k : Ok g M R Z kc ks h n (a0 :: a1 :: a2 :: a3 :: a4 :: a5 :: a6 :: a7 :: a8 :: a9 :: a10 :: a11 :: a12 :: some (.int (nI (j + 1))) :: r) st) : Ok g M R Z kc ks h pc (a0 :: a1 :: a2 :: a3 :: a4 :: a5 :: a6 :: a7 :: a8 :: a9 :: a10 :: a11 :: a12 :: some (.int (nI j)) :: r) st := k_iinc hf rfl (nI_1 j) hs rfl k
theorem k_decN13 {a0 a1 a2 a3 a4 a5 a6 a7 a8 a9 a10 a11 a12 : Option Value} {r : List (Option Value)} {j : Nat} (hf : md_f M pc = some (.iinc 13 (-1), 3, n, x0, y0)) (hs : lc_1 a12 = true) (k : Ok g M R Z kc ks h n (a0 :: a1 :: a2 :: a3 :: a4 :: a5 :: a6 :: a7 :: a8 :: a9 :: a10 :: a11 :: a12 :: some (.int (nI j)) :: r) st) : Ok g M R Z kc ks h pc (a0 :: a1 :: a2 :: a3 :: a4 :: a5 :: a6 :: a7 :: a8 :: a9 :: a10 :: a11 :: a12 :: some (.int (nI (j + 1))) :: r) st := k_iinc hf rfl (pk_m1 j) hs rfl k
theorem kn_ge {o : Int} {a b : Nat} (hf : md_f M pc = some (.if_icmp .ge o, 3, n, x0, y0)) (ha : a < 2 ^ 31) (hb : b < 2 ^ 31) (kt : b ≤ a → Ok g M R Z kc ks h x0 L st) (kf : a < b → Ok g M R Z kc ks h n L st) : Ok g M R Z kc ks h pc L (.int (nI b) :: .int (nI a) :: st) := k_icmp_ge hf (fun q => kt ((nI_leI hb ha).mp q)) (fun q => kf (Nat.not_le.mp (fun z => q ((nI_leI hb ha).mpr z))))
theorem kn_lt {o : Int} {a b : Nat} (hf : md_f M pc = some (.if_icmp .lt o, 3, n, x0, y0)) (ha : a < 2 ^ 31) (hb : b < 2 ^ 31) (kt : a < b → Ok g M R Z kc ks h x0 L st) (kf : b ≤ a → Ok g M R Z kc ks h n L st) : Ok g M R Z kc ks h pc L (.int (nI b) :: .int (nI a) :: st) := k_icmp_lt hf (fun q => kt ((nI_ltI ha hb).mp q)) (fun q => kf (Nat.not_lt.mp (fun z => q ((nI_ltI ha hb).mpr z))))
theorem kn_gt {o : Int} {a b : Nat} (hf : md_f M pc = some (.if_icmp .gt o, 3, n, x0, y0)) (ha : a < 2 ^ 31) (hb : b < 2 ^ 31) (kt : b < a → Ok g M R Z kc ks h x0 L st) (kf : a ≤ b → Ok g M R Z kc ks h n L st) : Ok g M R Z kc ks h pc L (.int (nI b) :: .int (nI a) :: st) := k_icmp_gt hf (fun q => kt ((nI_ltI hb ha).mp q)) (fun q => kf (Nat.not_lt.mp (fun z => q ((nI_ltI hb ha).mpr z))))
theorem kn_le {o : Int} {a b : Nat} (hf : md_f M pc = some (.if_icmp .le o, 3, n, x0, y0)) (ha : a < 2 ^ 31) (hb : b < 2 ^ 31) (kt : a ≤ b → Ok g M R Z kc ks h x0 L st) (kf : b < a → Ok g M R Z kc ks h n L st) : Ok g M R Z kc ks h pc L (.int (nI b) :: .int (nI a) :: st) := k_icmp_le hf (fun q => kt ((nI_leI ha hb).mp q)) (fun q => kf (Nat.not_le.mp (fun z => q ((nI_leI ha hb).mpr z))))
theorem kn_eq {o : Int} {a b : Nat} (hf : md_f M pc = some (.if_icmp .eq o, 3, n, x0, y0)) (ha : a < 2 ^ 31) (hb : b < 2 ^ 31) (kt : a = b → Ok g M R Z kc ks h x0 L st) (kf : a ≠ b → Ok g M R Z kc ks h n L st) : Ok g M R Z kc ks h pc L (.int (nI b) :: .int (nI a) :: st) := k_icmp_eq hf (fun q => kt ((nI_eq ha hb).mp q)) (fun q => kf (fun z => q ((nI_eq ha hb).mpr z)))
theorem kn_ne {o : Int} {a b : Nat} (hf : md_f M pc = some (.if_icmp .ne o, 3, n, x0, y0)) (ha : a < 2 ^ 31) (hb : b < 2 ^ 31) (kt : a ≠ b → Ok g M R Z kc ks h x0 L st) (kf : a = b → Ok g M R Z kc ks h n L st) : Ok g M R Z kc ks h pc L (.int (nI b) :: .int (nI a) :: st) := k_icmp_ne hf (fun q => kt (fun z => q ((nI_eq ha hb).mpr z))) (fun q => kf ((nI_eq ha hb).mp q))
/-- a truth value as the machine has it -/
def bI (b : Bool) : Int32 := cond b 1 0
theorem bI_nar (b : Bool) : narrow .boolean (.int (bI b)) = .int (bI b) := by cases b <;> rfl
theorem kb_eq {o : Int} {b : Bool} (hf : md_f M pc = some (.ifCond .eq o, 3, n, x0, y0)) (kt : b = false → Ok g M R Z kc ks h x0 L st) (kf : b = true → Ok g M R Z kc ks h n L st) : Ok g M R Z kc ks h pc L (.int (bI b) :: st) := by
  cases b with
  | false => exact k_if_eq hf (fun _ => kt rfl) (fun q => absurd rfl q)
  | true => exact k_if_eq hf (fun q => absurd q (by decide)) (fun _ => kf rfl)
theorem kb_ne {o : Int} {b : Bool} (hf : md_f M pc = some (.ifCond .ne o, 3, n, x0, y0)) (kt : b = true → Ok g M R Z kc ks h x0 L st) (kf : b = false → Ok g M R Z kc ks h n L st) : Ok g M R Z kc ks h pc L (.int (bI b) :: st) := by
  cases b with
  | false => exact k_if_ne hf (fun q => absurd rfl q) (fun _ => kf rfl)
  | true => exact k_if_ne hf (fun _ => kt rfl) (fun q => absurd q (by decide))
theorem hr0 {d maxL : Nat} (h : maxL ≤ 29) : rm_ok (rmd (d + 1) 0 0) d maxL := rm_d h
theorem Om_val {M : Md} {v : Value} {h1 : Hp} (k : Om g M d Q h1 pc L (v :: st)) : Om g M d Q h1 pc L (psh (some v) st) := k
theorem k_cS0 {idx : Nat} (hf : md_f M pc = some (.invokestatic idx, 3, n, x0, y0)) (hw : cl_S M1 0) (hk : Cond.methodLink (md_y M).cls idx (md_y M1) ∈ sg_tbl) (hm : md_n M1 ≤ 29) (hst : (st.map fun v => v.category).sum ≤ 8)
    (kk : Ct g M1 d 0 0 ([]) h (fun r h1 => Om g M (d + 1) Q h1 n L (psh r st))) : Om g M (d + 1) Q h pc L (st) := k_callS (As := []) (mc := 0) (ms := 0) hf rfl rfl hst (Nat.zero_le _) (Nat.zero_le _) (hr0 hm) hk hw kk
theorem k_cS1 {idx : Nat} {v0 : Value} (hf : md_f M pc = some (.invokestatic idx, 3, n, x0, y0)) (hw : cl_S M1 1) (hk : Cond.methodLink (md_y M).cls idx (md_y M1) ∈ sg_tbl) (hm : md_n M1 ≤ 29) (hst : (st.map fun v => v.category).sum ≤ 8)
    (kk : Ct g M1 d 0 0 ([v0]) h (fun r h1 => Om g M (d + 1) Q h1 n L (psh r st))) : Om g M (d + 1) Q h pc L (v0 :: st) := k_callS (As := [v0]) (mc := 0) (ms := 0) hf rfl rfl hst (Nat.zero_le _) (Nat.zero_le _) (hr0 hm) hk hw kk
theorem k_cS2 {idx : Nat} {v0 v1 : Value} (hf : md_f M pc = some (.invokestatic idx, 3, n, x0, y0)) (hw : cl_S M1 2) (hk : Cond.methodLink (md_y M).cls idx (md_y M1) ∈ sg_tbl) (hm : md_n M1 ≤ 29) (hst : (st.map fun v => v.category).sum ≤ 8)
    (kk : Ct g M1 d 0 0 ([v0, v1]) h (fun r h1 => Om g M (d + 1) Q h1 n L (psh r st))) : Om g M (d + 1) Q h pc L (v1 :: v0 :: st) := k_callS (As := [v0, v1]) (mc := 0) (ms := 0) hf rfl rfl hst (Nat.zero_le _) (Nat.zero_le _) (hr0 hm) hk hw kk
theorem k_cS3 {idx : Nat} {v0 v1 v2 : Value} (hf : md_f M pc = some (.invokestatic idx, 3, n, x0, y0)) (hw : cl_S M1 3) (hk : Cond.methodLink (md_y M).cls idx (md_y M1) ∈ sg_tbl) (hm : md_n M1 ≤ 29) (hst : (st.map fun v => v.category).sum ≤ 8)
    (kk : Ct g M1 d 0 0 ([v0, v1, v2]) h (fun r h1 => Om g M (d + 1) Q h1 n L (psh r st))) : Om g M (d + 1) Q h pc L (v2 :: v1 :: v0 :: st) := k_callS (As := [v0, v1, v2]) (mc := 0) (ms := 0) hf rfl rfl hst (Nat.zero_le _) (Nat.zero_le _) (hr0 hm) hk hw kk
theorem k_cS4 {idx : Nat} {v0 v1 v2 v3 : Value} (hf : md_f M pc = some (.invokestatic idx, 3, n, x0, y0)) (hw : cl_S M1 4) (hk : Cond.methodLink (md_y M).cls idx (md_y M1) ∈ sg_tbl) (hm : md_n M1 ≤ 29) (hst : (st.map fun v => v.category).sum ≤ 8)
    (kk : Ct g M1 d 0 0 ([v0, v1, v2, v3]) h (fun r h1 => Om g M (d + 1) Q h1 n L (psh r st))) : Om g M (d + 1) Q h pc L (v3 :: v2 :: v1 :: v0 :: st) := k_callS (As := [v0, v1, v2, v3]) (mc := 0) (ms := 0) hf rfl rfl hst (Nat.zero_le _) (Nat.zero_le _) (hr0 hm) hk hw kk
theorem k_cS5 {idx : Nat} {v0 v1 v2 v3 v4 : Value} (hf : md_f M pc = some (.invokestatic idx, 3, n, x0, y0)) (hw : cl_S M1 5) (hk : Cond.methodLink (md_y M).cls idx (md_y M1) ∈ sg_tbl) (hm : md_n M1 ≤ 29) (hst : (st.map fun v => v.category).sum ≤ 8)
    (kk : Ct g M1 d 0 0 ([v0, v1, v2, v3, v4]) h (fun r h1 => Om g M (d + 1) Q h1 n L (psh r st))) : Om g M (d + 1) Q h pc L (v4 :: v3 :: v2 :: v1 :: v0 :: st) := k_callS (As := [v0, v1, v2, v3, v4]) (mc := 0) (ms := 0) hf rfl rfl hst (Nat.zero_le _) (Nat.zero_le _) (hr0 hm) hk hw kk
theorem k_cS6 {idx : Nat} {v0 v1 v2 v3 v4 v5 : Value} (hf : md_f M pc = some (.invokestatic idx, 3, n, x0, y0)) (hw : cl_S M1 6) (hk : Cond.methodLink (md_y M).cls idx (md_y M1) ∈ sg_tbl) (hm : md_n M1 ≤ 29) (hst : (st.map fun v => v.category).sum ≤ 8)
    (kk : Ct g M1 d 0 0 ([v0, v1, v2, v3, v4, v5]) h (fun r h1 => Om g M (d + 1) Q h1 n L (psh r st))) : Om g M (d + 1) Q h pc L (v5 :: v4 :: v3 :: v2 :: v1 :: v0 :: st) := k_callS (As := [v0, v1, v2, v3, v4, v5]) (mc := 0) (ms := 0) hf rfl rfl hst (Nat.zero_le _) (Nat.zero_le _) (hr0 hm) hk hw kk
theorem k_cS7 {idx : Nat} {v0 v1 v2 v3 v4 v5 v6 : Value} (hf : md_f M pc = some (.invokestatic idx, 3, n, x0, y0)) (hw : cl_S M1 7) (hk : Cond.methodLink (md_y M).cls idx (md_y M1) ∈ sg_tbl) (hm : md_n M1 ≤ 29) (hst : (st.map fun v => v.category).sum ≤ 8)
    (kk : Ct g M1 d 0 0 ([v0, v1, v2, v3, v4, v5, v6]) h (fun r h1 => Om g M (d + 1) Q h1 n L (psh r st))) : Om g M (d + 1) Q h pc L (v6 :: v5 :: v4 :: v3 :: v2 :: v1 :: v0 :: st) := k_callS (As := [v0, v1, v2, v3, v4, v5, v6]) (mc := 0) (ms := 0) hf rfl rfl hst (Nat.zero_le _) (Nat.zero_le _) (hr0 hm) hk hw kk
theorem k_cSN0 {idx : Nat} (hf : md_f M pc = some (.invokestatic idx, 3, n, x0, y0)) (hw : cl_S M1 0) (hk : Cond.methodLinkNest (md_y M).cls idx (md_y M1) sg_host ∈ sg_nest) (hm : md_n M1 ≤ 29) (hst : (st.map fun v => v.category).sum ≤ 8)
    (kk : Ct g M1 d 0 0 ([]) h (fun r h1 => Om g M (d + 1) Q h1 n L (psh r st))) : Om g M (d + 1) Q h pc L (st) := k_callSN (As := []) (mc := 0) (ms := 0) hf rfl rfl hst (Nat.zero_le _) (Nat.zero_le _) (hr0 hm) hk hw kk
theorem k_cSN1 {idx : Nat} {v0 : Value} (hf : md_f M pc = some (.invokestatic idx, 3, n, x0, y0)) (hw : cl_S M1 1) (hk : Cond.methodLinkNest (md_y M).cls idx (md_y M1) sg_host ∈ sg_nest) (hm : md_n M1 ≤ 29) (hst : (st.map fun v => v.category).sum ≤ 8)
    (kk : Ct g M1 d 0 0 ([v0]) h (fun r h1 => Om g M (d + 1) Q h1 n L (psh r st))) : Om g M (d + 1) Q h pc L (v0 :: st) := k_callSN (As := [v0]) (mc := 0) (ms := 0) hf rfl rfl hst (Nat.zero_le _) (Nat.zero_le _) (hr0 hm) hk hw kk
theorem k_cSN2 {idx : Nat} {v0 v1 : Value} (hf : md_f M pc = some (.invokestatic idx, 3, n, x0, y0)) (hw : cl_S M1 2) (hk : Cond.methodLinkNest (md_y M).cls idx (md_y M1) sg_host ∈ sg_nest) (hm : md_n M1 ≤ 29) (hst : (st.map fun v => v.category).sum ≤ 8)
    (kk : Ct g M1 d 0 0 ([v0, v1]) h (fun r h1 => Om g M (d + 1) Q h1 n L (psh r st))) : Om g M (d + 1) Q h pc L (v1 :: v0 :: st) := k_callSN (As := [v0, v1]) (mc := 0) (ms := 0) hf rfl rfl hst (Nat.zero_le _) (Nat.zero_le _) (hr0 hm) hk hw kk
theorem k_cSN3 {idx : Nat} {v0 v1 v2 : Value} (hf : md_f M pc = some (.invokestatic idx, 3, n, x0, y0)) (hw : cl_S M1 3) (hk : Cond.methodLinkNest (md_y M).cls idx (md_y M1) sg_host ∈ sg_nest) (hm : md_n M1 ≤ 29) (hst : (st.map fun v => v.category).sum ≤ 8)
    (kk : Ct g M1 d 0 0 ([v0, v1, v2]) h (fun r h1 => Om g M (d + 1) Q h1 n L (psh r st))) : Om g M (d + 1) Q h pc L (v2 :: v1 :: v0 :: st) := k_callSN (As := [v0, v1, v2]) (mc := 0) (ms := 0) hf rfl rfl hst (Nat.zero_le _) (Nat.zero_le _) (hr0 hm) hk hw kk
theorem k_cSN4 {idx : Nat} {v0 v1 v2 v3 : Value} (hf : md_f M pc = some (.invokestatic idx, 3, n, x0, y0)) (hw : cl_S M1 4) (hk : Cond.methodLinkNest (md_y M).cls idx (md_y M1) sg_host ∈ sg_nest) (hm : md_n M1 ≤ 29) (hst : (st.map fun v => v.category).sum ≤ 8)
    (kk : Ct g M1 d 0 0 ([v0, v1, v2, v3]) h (fun r h1 => Om g M (d + 1) Q h1 n L (psh r st))) : Om g M (d + 1) Q h pc L (v3 :: v2 :: v1 :: v0 :: st) := k_callSN (As := [v0, v1, v2, v3]) (mc := 0) (ms := 0) hf rfl rfl hst (Nat.zero_le _) (Nat.zero_le _) (hr0 hm) hk hw kk
theorem k_cSN5 {idx : Nat} {v0 v1 v2 v3 v4 : Value} (hf : md_f M pc = some (.invokestatic idx, 3, n, x0, y0)) (hw : cl_S M1 5) (hk : Cond.methodLinkNest (md_y M).cls idx (md_y M1) sg_host ∈ sg_nest) (hm : md_n M1 ≤ 29) (hst : (st.map fun v => v.category).sum ≤ 8)
    (kk : Ct g M1 d 0 0 ([v0, v1, v2, v3, v4]) h (fun r h1 => Om g M (d + 1) Q h1 n L (psh r st))) : Om g M (d + 1) Q h pc L (v4 :: v3 :: v2 :: v1 :: v0 :: st) := k_callSN (As := [v0, v1, v2, v3, v4]) (mc := 0) (ms := 0) hf rfl rfl hst (Nat.zero_le _) (Nat.zero_le _) (hr0 hm) hk hw kk
theorem k_cSN6 {idx : Nat} {v0 v1 v2 v3 v4 v5 : Value} (hf : md_f M pc = some (.invokestatic idx, 3, n, x0, y0)) (hw : cl_S M1 6) (hk : Cond.methodLinkNest (md_y M).cls idx (md_y M1) sg_host ∈ sg_nest) (hm : md_n M1 ≤ 29) (hst : (st.map fun v => v.category).sum ≤ 8)
    (kk : Ct g M1 d 0 0 ([v0, v1, v2, v3, v4, v5]) h (fun r h1 => Om g M (d + 1) Q h1 n L (psh r st))) : Om g M (d + 1) Q h pc L (v5 :: v4 :: v3 :: v2 :: v1 :: v0 :: st) := k_callSN (As := [v0, v1, v2, v3, v4, v5]) (mc := 0) (ms := 0) hf rfl rfl hst (Nat.zero_le _) (Nat.zero_le _) (hr0 hm) hk hw kk
theorem k_cSN7 {idx : Nat} {v0 v1 v2 v3 v4 v5 v6 : Value} (hf : md_f M pc = some (.invokestatic idx, 3, n, x0, y0)) (hw : cl_S M1 7) (hk : Cond.methodLinkNest (md_y M).cls idx (md_y M1) sg_host ∈ sg_nest) (hm : md_n M1 ≤ 29) (hst : (st.map fun v => v.category).sum ≤ 8)
    (kk : Ct g M1 d 0 0 ([v0, v1, v2, v3, v4, v5, v6]) h (fun r h1 => Om g M (d + 1) Q h1 n L (psh r st))) : Om g M (d + 1) Q h pc L (v6 :: v5 :: v4 :: v3 :: v2 :: v1 :: v0 :: st) := k_callSN (As := [v0, v1, v2, v3, v4, v5, v6]) (mc := 0) (ms := 0) hf rfl rfl hst (Nat.zero_le _) (Nat.zero_le _) (hr0 hm) hk hw kk
theorem k_cV0 {idx : Nat} {b ci : Nat} (hf : md_f M pc = some (.invokevirtual idx, 3, n, x0, y0)) (hw : cl_V M1 0) (hk : Cond.methodLink (md_y M).cls idx (md_y M1) ∈ sg_tbl) (ho : isO g h b ci) (hc : sg_C ci = (md_y M1).cls) (hm : md_n M1 ≤ 29) (hst : (st.map fun v => v.category).sum ≤ 8)
    (kk : Ct g M1 d 0 0 (.ref b :: []) h (fun r h1 => Om g M (d + 1) Q h1 n L (psh r st))) : Om g M (d + 1) Q h pc L (.ref b :: st) := k_callV (As := []) (mc := 0) (ms := 0) hf rfl rfl hst (Nat.zero_le _) (Nat.zero_le _) (hr0 hm) hk hw ho hc kk
theorem k_cV1 {idx : Nat} {v0 : Value} {b ci : Nat} (hf : md_f M pc = some (.invokevirtual idx, 3, n, x0, y0)) (hw : cl_V M1 1) (hk : Cond.methodLink (md_y M).cls idx (md_y M1) ∈ sg_tbl) (ho : isO g h b ci) (hc : sg_C ci = (md_y M1).cls) (hm : md_n M1 ≤ 29) (hst : (st.map fun v => v.category).sum ≤ 8)
    (kk : Ct g M1 d 0 0 (.ref b :: [v0]) h (fun r h1 => Om g M (d + 1) Q h1 n L (psh r st))) : Om g M (d + 1) Q h pc L (v0 :: .ref b :: st) := k_callV (As := [v0]) (mc := 0) (ms := 0) hf rfl rfl hst (Nat.zero_le _) (Nat.zero_le _) (hr0 hm) hk hw ho hc kk
theorem k_cV2 {idx : Nat} {v0 v1 : Value} {b ci : Nat} (hf : md_f M pc = some (.invokevirtual idx, 3, n, x0, y0)) (hw : cl_V M1 2) (hk : Cond.methodLink (md_y M).cls idx (md_y M1) ∈ sg_tbl) (ho : isO g h b ci) (hc : sg_C ci = (md_y M1).cls) (hm : md_n M1 ≤ 29) (hst : (st.map fun v => v.category).sum ≤ 8)
    (kk : Ct g M1 d 0 0 (.ref b :: [v0, v1]) h (fun r h1 => Om g M (d + 1) Q h1 n L (psh r st))) : Om g M (d + 1) Q h pc L (v1 :: v0 :: .ref b :: st) := k_callV (As := [v0, v1]) (mc := 0) (ms := 0) hf rfl rfl hst (Nat.zero_le _) (Nat.zero_le _) (hr0 hm) hk hw ho hc kk
theorem k_cV3 {idx : Nat} {v0 v1 v2 : Value} {b ci : Nat} (hf : md_f M pc = some (.invokevirtual idx, 3, n, x0, y0)) (hw : cl_V M1 3) (hk : Cond.methodLink (md_y M).cls idx (md_y M1) ∈ sg_tbl) (ho : isO g h b ci) (hc : sg_C ci = (md_y M1).cls) (hm : md_n M1 ≤ 29) (hst : (st.map fun v => v.category).sum ≤ 8)
    (kk : Ct g M1 d 0 0 (.ref b :: [v0, v1, v2]) h (fun r h1 => Om g M (d + 1) Q h1 n L (psh r st))) : Om g M (d + 1) Q h pc L (v2 :: v1 :: v0 :: .ref b :: st) := k_callV (As := [v0, v1, v2]) (mc := 0) (ms := 0) hf rfl rfl hst (Nat.zero_le _) (Nat.zero_le _) (hr0 hm) hk hw ho hc kk
theorem k_cV4 {idx : Nat} {v0 v1 v2 v3 : Value} {b ci : Nat} (hf : md_f M pc = some (.invokevirtual idx, 3, n, x0, y0)) (hw : cl_V M1 4) (hk : Cond.methodLink (md_y M).cls idx (md_y M1) ∈ sg_tbl) (ho : isO g h b ci) (hc : sg_C ci = (md_y M1).cls) (hm : md_n M1 ≤ 29) (hst : (st.map fun v => v.category).sum ≤ 8)
    (kk : Ct g M1 d 0 0 (.ref b :: [v0, v1, v2, v3]) h (fun r h1 => Om g M (d + 1) Q h1 n L (psh r st))) : Om g M (d + 1) Q h pc L (v3 :: v2 :: v1 :: v0 :: .ref b :: st) := k_callV (As := [v0, v1, v2, v3]) (mc := 0) (ms := 0) hf rfl rfl hst (Nat.zero_le _) (Nat.zero_le _) (hr0 hm) hk hw ho hc kk
theorem k_cV5 {idx : Nat} {v0 v1 v2 v3 v4 : Value} {b ci : Nat} (hf : md_f M pc = some (.invokevirtual idx, 3, n, x0, y0)) (hw : cl_V M1 5) (hk : Cond.methodLink (md_y M).cls idx (md_y M1) ∈ sg_tbl) (ho : isO g h b ci) (hc : sg_C ci = (md_y M1).cls) (hm : md_n M1 ≤ 29) (hst : (st.map fun v => v.category).sum ≤ 8)
    (kk : Ct g M1 d 0 0 (.ref b :: [v0, v1, v2, v3, v4]) h (fun r h1 => Om g M (d + 1) Q h1 n L (psh r st))) : Om g M (d + 1) Q h pc L (v4 :: v3 :: v2 :: v1 :: v0 :: .ref b :: st) := k_callV (As := [v0, v1, v2, v3, v4]) (mc := 0) (ms := 0) hf rfl rfl hst (Nat.zero_le _) (Nat.zero_le _) (hr0 hm) hk hw ho hc kk
theorem k_cV6 {idx : Nat} {v0 v1 v2 v3 v4 v5 : Value} {b ci : Nat} (hf : md_f M pc = some (.invokevirtual idx, 3, n, x0, y0)) (hw : cl_V M1 6) (hk : Cond.methodLink (md_y M).cls idx (md_y M1) ∈ sg_tbl) (ho : isO g h b ci) (hc : sg_C ci = (md_y M1).cls) (hm : md_n M1 ≤ 29) (hst : (st.map fun v => v.category).sum ≤ 8)
    (kk : Ct g M1 d 0 0 (.ref b :: [v0, v1, v2, v3, v4, v5]) h (fun r h1 => Om g M (d + 1) Q h1 n L (psh r st))) : Om g M (d + 1) Q h pc L (v5 :: v4 :: v3 :: v2 :: v1 :: v0 :: .ref b :: st) := k_callV (As := [v0, v1, v2, v3, v4, v5]) (mc := 0) (ms := 0) hf rfl rfl hst (Nat.zero_le _) (Nat.zero_le _) (hr0 hm) hk hw ho hc kk
theorem k_cV7 {idx : Nat} {v0 v1 v2 v3 v4 v5 v6 : Value} {b ci : Nat} (hf : md_f M pc = some (.invokevirtual idx, 3, n, x0, y0)) (hw : cl_V M1 7) (hk : Cond.methodLink (md_y M).cls idx (md_y M1) ∈ sg_tbl) (ho : isO g h b ci) (hc : sg_C ci = (md_y M1).cls) (hm : md_n M1 ≤ 29) (hst : (st.map fun v => v.category).sum ≤ 8)
    (kk : Ct g M1 d 0 0 (.ref b :: [v0, v1, v2, v3, v4, v5, v6]) h (fun r h1 => Om g M (d + 1) Q h1 n L (psh r st))) : Om g M (d + 1) Q h pc L (v6 :: v5 :: v4 :: v3 :: v2 :: v1 :: v0 :: .ref b :: st) := k_callV (As := [v0, v1, v2, v3, v4, v5, v6]) (mc := 0) (ms := 0) hf rfl rfl hst (Nat.zero_le _) (Nat.zero_le _) (hr0 hm) hk hw ho hc kk
theorem k_cVN0 {idx : Nat} {b ci : Nat} (hf : md_f M pc = some (.invokevirtual idx, 3, n, x0, y0)) (hw : cl_V M1 0) (hk : Cond.methodLinkNest (md_y M).cls idx (md_y M1) sg_host ∈ sg_nest) (ho : isO g h b ci) (hc : sg_C ci = (md_y M1).cls) (hm : md_n M1 ≤ 29) (hst : (st.map fun v => v.category).sum ≤ 8)
    (kk : Ct g M1 d 0 0 (.ref b :: []) h (fun r h1 => Om g M (d + 1) Q h1 n L (psh r st))) : Om g M (d + 1) Q h pc L (.ref b :: st) := k_callVN (As := []) (mc := 0) (ms := 0) hf rfl rfl hst (Nat.zero_le _) (Nat.zero_le _) (hr0 hm) hk hw ho hc kk
theorem k_cVN1 {idx : Nat} {v0 : Value} {b ci : Nat} (hf : md_f M pc = some (.invokevirtual idx, 3, n, x0, y0)) (hw : cl_V M1 1) (hk : Cond.methodLinkNest (md_y M).cls idx (md_y M1) sg_host ∈ sg_nest) (ho : isO g h b ci) (hc : sg_C ci = (md_y M1).cls) (hm : md_n M1 ≤ 29) (hst : (st.map fun v => v.category).sum ≤ 8)
    (kk : Ct g M1 d 0 0 (.ref b :: [v0]) h (fun r h1 => Om g M (d + 1) Q h1 n L (psh r st))) : Om g M (d + 1) Q h pc L (v0 :: .ref b :: st) := k_callVN (As := [v0]) (mc := 0) (ms := 0) hf rfl rfl hst (Nat.zero_le _) (Nat.zero_le _) (hr0 hm) hk hw ho hc kk
theorem k_cVN2 {idx : Nat} {v0 v1 : Value} {b ci : Nat} (hf : md_f M pc = some (.invokevirtual idx, 3, n, x0, y0)) (hw : cl_V M1 2) (hk : Cond.methodLinkNest (md_y M).cls idx (md_y M1) sg_host ∈ sg_nest) (ho : isO g h b ci) (hc : sg_C ci = (md_y M1).cls) (hm : md_n M1 ≤ 29) (hst : (st.map fun v => v.category).sum ≤ 8)
    (kk : Ct g M1 d 0 0 (.ref b :: [v0, v1]) h (fun r h1 => Om g M (d + 1) Q h1 n L (psh r st))) : Om g M (d + 1) Q h pc L (v1 :: v0 :: .ref b :: st) := k_callVN (As := [v0, v1]) (mc := 0) (ms := 0) hf rfl rfl hst (Nat.zero_le _) (Nat.zero_le _) (hr0 hm) hk hw ho hc kk
theorem k_cVN3 {idx : Nat} {v0 v1 v2 : Value} {b ci : Nat} (hf : md_f M pc = some (.invokevirtual idx, 3, n, x0, y0)) (hw : cl_V M1 3) (hk : Cond.methodLinkNest (md_y M).cls idx (md_y M1) sg_host ∈ sg_nest) (ho : isO g h b ci) (hc : sg_C ci = (md_y M1).cls) (hm : md_n M1 ≤ 29) (hst : (st.map fun v => v.category).sum ≤ 8)
    (kk : Ct g M1 d 0 0 (.ref b :: [v0, v1, v2]) h (fun r h1 => Om g M (d + 1) Q h1 n L (psh r st))) : Om g M (d + 1) Q h pc L (v2 :: v1 :: v0 :: .ref b :: st) := k_callVN (As := [v0, v1, v2]) (mc := 0) (ms := 0) hf rfl rfl hst (Nat.zero_le _) (Nat.zero_le _) (hr0 hm) hk hw ho hc kk
theorem k_cVN4 {idx : Nat} {v0 v1 v2 v3 : Value} {b ci : Nat} (hf : md_f M pc = some (.invokevirtual idx, 3, n, x0, y0)) (hw : cl_V M1 4) (hk : Cond.methodLinkNest (md_y M).cls idx (md_y M1) sg_host ∈ sg_nest) (ho : isO g h b ci) (hc : sg_C ci = (md_y M1).cls) (hm : md_n M1 ≤ 29) (hst : (st.map fun v => v.category).sum ≤ 8)
    (kk : Ct g M1 d 0 0 (.ref b :: [v0, v1, v2, v3]) h (fun r h1 => Om g M (d + 1) Q h1 n L (psh r st))) : Om g M (d + 1) Q h pc L (v3 :: v2 :: v1 :: v0 :: .ref b :: st) := k_callVN (As := [v0, v1, v2, v3]) (mc := 0) (ms := 0) hf rfl rfl hst (Nat.zero_le _) (Nat.zero_le _) (hr0 hm) hk hw ho hc kk
theorem k_cVN5 {idx : Nat} {v0 v1 v2 v3 v4 : Value} {b ci : Nat} (hf : md_f M pc = some (.invokevirtual idx, 3, n, x0, y0)) (hw : cl_V M1 5) (hk : Cond.methodLinkNest (md_y M).cls idx (md_y M1) sg_host ∈ sg_nest) (ho : isO g h b ci) (hc : sg_C ci = (md_y M1).cls) (hm : md_n M1 ≤ 29) (hst : (st.map fun v => v.category).sum ≤ 8)
    (kk : Ct g M1 d 0 0 (.ref b :: [v0, v1, v2, v3, v4]) h (fun r h1 => Om g M (d + 1) Q h1 n L (psh r st))) : Om g M (d + 1) Q h pc L (v4 :: v3 :: v2 :: v1 :: v0 :: .ref b :: st) := k_callVN (As := [v0, v1, v2, v3, v4]) (mc := 0) (ms := 0) hf rfl rfl hst (Nat.zero_le _) (Nat.zero_le _) (hr0 hm) hk hw ho hc kk
theorem k_cVN6 {idx : Nat} {v0 v1 v2 v3 v4 v5 : Value} {b ci : Nat} (hf : md_f M pc = some (.invokevirtual idx, 3, n, x0, y0)) (hw : cl_V M1 6) (hk : Cond.methodLinkNest (md_y M).cls idx (md_y M1) sg_host ∈ sg_nest) (ho : isO g h b ci) (hc : sg_C ci = (md_y M1).cls) (hm : md_n M1 ≤ 29) (hst : (st.map fun v => v.category).sum ≤ 8)
    (kk : Ct g M1 d 0 0 (.ref b :: [v0, v1, v2, v3, v4, v5]) h (fun r h1 => Om g M (d + 1) Q h1 n L (psh r st))) : Om g M (d + 1) Q h pc L (v5 :: v4 :: v3 :: v2 :: v1 :: v0 :: .ref b :: st) := k_callVN (As := [v0, v1, v2, v3, v4, v5]) (mc := 0) (ms := 0) hf rfl rfl hst (Nat.zero_le _) (Nat.zero_le _) (hr0 hm) hk hw ho hc kk
theorem k_cVN7 {idx : Nat} {v0 v1 v2 v3 v4 v5 v6 : Value} {b ci : Nat} (hf : md_f M pc = some (.invokevirtual idx, 3, n, x0, y0)) (hw : cl_V M1 7) (hk : Cond.methodLinkNest (md_y M).cls idx (md_y M1) sg_host ∈ sg_nest) (ho : isO g h b ci) (hc : sg_C ci = (md_y M1).cls) (hm : md_n M1 ≤ 29) (hst : (st.map fun v => v.category).sum ≤ 8)
    (kk : Ct g M1 d 0 0 (.ref b :: [v0, v1, v2, v3, v4, v5, v6]) h (fun r h1 => Om g M (d + 1) Q h1 n L (psh r st))) : Om g M (d + 1) Q h pc L (v6 :: v5 :: v4 :: v3 :: v2 :: v1 :: v0 :: .ref b :: st) := k_callVN (As := [v0, v1, v2, v3, v4, v5, v6]) (mc := 0) (ms := 0) hf rfl rfl hst (Nat.zero_le _) (Nat.zero_le _) (hr0 hm) hk hw ho hc kk
end MORE
/-! FRAMES: nothing but cells in P has changed -/
def hp_fr (P : Nat → Prop) (h h1 : Hp) : Prop := hp_n h1 = hp_n h ∧ hp_k h1 = hp_k h ∧ hp_l h1 = hp_l h ∧ ∀ a, ¬ P a → (∀ j, hp_i h1 a j = hp_i h a j) ∧ (∀ j, hp_j h1 a j = hp_j h a j) ∧ ∀ j, hp_r h1 a j = hp_r h a j
theorem fr_rf {P : Nat → Prop} {h : Hp} : hp_fr P h h := ⟨rfl, rfl, rfl, fun _ _ => ⟨fun _ => rfl, fun _ => rfl, fun _ => rfl⟩⟩
theorem fr_tr {P : Nat → Prop} {h h1 h2 : Hp} (x : hp_fr P h h1) (y : hp_fr P h1 h2) : hp_fr P h h2 :=
  ⟨y.1.trans x.1, y.2.1.trans x.2.1, y.2.2.1.trans x.2.2.1, fun a ha => ⟨fun j => ((y.2.2.2 a ha).1 j).trans ((x.2.2.2 a ha).1 j), fun j => ((y.2.2.2 a ha).2.1 j).trans ((x.2.2.2 a ha).2.1 j), fun j => ((y.2.2.2 a ha).2.2 j).trans ((x.2.2.2 a ha).2.2 j)⟩⟩
theorem fr_mono {P P1 : Nat → Prop} {h h1 : Hp} (x : hp_fr P h h1) (e : ∀ a, P a → P1 a) : hp_fr P1 h h1 := ⟨x.1, x.2.1, x.2.2.1, fun a ha => x.2.2.2 a (fun z => ha (e a z))⟩
theorem fr_i {P : Nat → Prop} {h h1 : Hp} (x : hp_fr P h h1) {a : Nat} (ha : ¬ P a) (j : Nat) : hp_i h1 a j = hp_i h a j := (x.2.2.2 a ha).1 j
theorem fr_j {P : Nat → Prop} {h h1 : Hp} (x : hp_fr P h h1) {a : Nat} (ha : ¬ P a) (j : Nat) : hp_j h1 a j = hp_j h a j := (x.2.2.2 a ha).2.1 j
theorem fr_r {P : Nat → Prop} {h h1 : Hp} (x : hp_fr P h h1) {a : Nat} (ha : ¬ P a) (j : Nat) : hp_r h1 a j = hp_r h a j := (x.2.2.2 a ha).2.2 j
theorem fr_ui {P : Nat → Prop} {h : Hp} {a k : Nat} {x : Int32} (ha : P a) : hp_fr P h (hp_ui h a k x) := ⟨rfl, rfl, rfl, fun _ hb => ⟨fun _ => up2_a (fun e => hb (e ▸ ha)), fun _ => rfl, fun _ => rfl⟩⟩
theorem fr_uj {P : Nat → Prop} {h : Hp} {a k : Nat} {x : Int64} (ha : P a) : hp_fr P h (hp_uj h a k x) := ⟨rfl, rfl, rfl, fun _ hb => ⟨fun _ => rfl, fun _ => up2_a (fun e => hb (e ▸ ha)), fun _ => rfl⟩⟩
theorem fr_ur {P : Nat → Prop} {h : Hp} {a k : Nat} {x : Option Nat} (ha : P a) : hp_fr P h (hp_ur h a k x) := ⟨rfl, rfl, rfl, fun _ hb => ⟨fun _ => rfl, fun _ => rfl, fun _ => up2_a (fun e => hb (e ▸ ha))⟩⟩
theorem fr_O {P : Nat → Prop} {g : Gx} {h h1 : Hp} {a c : Nat} (x : hp_fr P h h1) (o : isO g h a c) : isO g h1 a c := ⟨o.1, by rw [x.1]; exact o.2.1, by rw [x.2.1]; exact o.2.2⟩
theorem fr_A {P : Nat → Prop} {g : Gx} {h h1 : Hp} {a t l : Nat} (x : hp_fr P h h1) (o : isA g h a t l) : isA g h1 a t l := ⟨o.1, by rw [x.1]; exact o.2.1, by rw [x.2.1]; exact o.2.2.1, by rw [x.2.2.1]; exact o.2.2.2⟩
theorem i_ui {h : Hp} {a k b j : Nat} {x : Int32} : hp_i (hp_ui h a k x) b j = if b = a ∧ j = k then x else hp_i h b j := rfl
theorem j_ui {h : Hp} {a k : Nat} {x : Int32} : hp_j (hp_ui h a k x) = hp_j h := rfl
theorem r_ui {h : Hp} {a k : Nat} {x : Int32} : hp_r (hp_ui h a k x) = hp_r h := rfl
theorem j_uj {h : Hp} {a k b j : Nat} {x : Int64} : hp_j (hp_uj h a k x) b j = if b = a ∧ j = k then x else hp_j h b j := rfl
theorem i_uj {h : Hp} {a k : Nat} {x : Int64} : hp_i (hp_uj h a k x) = hp_i h := rfl
theorem r_uj {h : Hp} {a k : Nat} {x : Int64} : hp_r (hp_uj h a k x) = hp_r h := rfl
theorem r_ur {h : Hp} {a k b j : Nat} {x : Option Nat} : hp_r (hp_ur h a k x) b j = if b = a ∧ j = k then x else hp_r h b j := rfl
theorem i_ur {h : Hp} {a k : Nat} {x : Option Nat} : hp_i (hp_ur h a k x) = hp_i h := rfl
theorem j_ur {h : Hp} {a k : Nat} {x : Option Nat} : hp_j (hp_ur h a k x) = hp_j h := rfl
end
