-- ===== PART A: goes FIRST, ahead of the names: the tables' words, and 'selects' of the private methods out of them =====
/-- a private method of a class that the tables say can be made, by its rows of tables_1 -/
def lw_okq (q : MethodName × Nat) : Prop := (q.1.cls ≠ "java/lang/invoke/MethodHandle" ∧ q.1.cls ≠ "java/lang/invoke/VarHandle") ∧ Cond.instantiable q.1.cls q.2 ∈ tables_1 ∧ Cond.privateMethod q.1 ∈ tables_1 ∧ Cond.instanceMethod q.1 ∈ tables_1
theorem lw_p0 : lw_okq (⟨"SearchGrids", "isCell", "(I)Z"⟩, 12) := ⟨⟨by decide +kernel, by decide +kernel⟩, List.mem_of_getElem? (i := 8) (by decide +kernel), List.mem_of_getElem? (i := 168) (by decide +kernel), List.mem_of_getElem? (i := 169) (by decide +kernel)⟩
theorem lw_p1 : lw_okq (⟨"SearchGrids", "tellOf", "(I)I"⟩, 12) := ⟨⟨by decide +kernel, by decide +kernel⟩, List.mem_of_getElem? (i := 8) (by decide +kernel), List.mem_of_getElem? (i := 173) (by decide +kernel), List.mem_of_getElem? (i := 174) (by decide +kernel)⟩
theorem lw_p2 : lw_okq (⟨"SearchGrids", "placeOf", "(I)I"⟩, 12) := ⟨⟨by decide +kernel, by decide +kernel⟩, List.mem_of_getElem? (i := 8) (by decide +kernel), List.mem_of_getElem? (i := 177) (by decide +kernel), List.mem_of_getElem? (i := 178) (by decide +kernel)⟩
theorem lw_p3 : lw_okq (⟨"SearchGrids", "dropPlan", "()V"⟩, 12) := ⟨⟨by decide +kernel, by decide +kernel⟩, List.mem_of_getElem? (i := 8) (by decide +kernel), List.mem_of_getElem? (i := 181) (by decide +kernel), List.mem_of_getElem? (i := 182) (by decide +kernel)⟩
theorem lw_p4 : lw_okq (⟨"SearchGrids", "allCounts", "()J"⟩, 12) := ⟨⟨by decide +kernel, by decide +kernel⟩, List.mem_of_getElem? (i := 8) (by decide +kernel), List.mem_of_getElem? (i := 199) (by decide +kernel), List.mem_of_getElem? (i := 200) (by decide +kernel)⟩
theorem lw_p5 : lw_okq (⟨"SearchGrids$Looker", "begin", "(I)V"⟩, 5) := ⟨⟨by decide +kernel, by decide +kernel⟩, List.mem_of_getElem? (i := 66) (by decide +kernel), List.mem_of_getElem? (i := 208) (by decide +kernel), List.mem_of_getElem? (i := 209) (by decide +kernel)⟩
theorem lw_p6 : lw_okq (⟨"SearchGrids", "isLooker", "(I)Z"⟩, 12) := ⟨⟨by decide +kernel, by decide +kernel⟩, List.mem_of_getElem? (i := 8) (by decide +kernel), List.mem_of_getElem? (i := 216) (by decide +kernel), List.mem_of_getElem? (i := 217) (by decide +kernel)⟩
theorem lw_p7 : lw_okq (⟨"SearchGrids$Looker", "takeAway", "(II)V"⟩, 5) := ⟨⟨by decide +kernel, by decide +kernel⟩, List.mem_of_getElem? (i := 66) (by decide +kernel), List.mem_of_getElem? (i := 221) (by decide +kernel), List.mem_of_getElem? (i := 222) (by decide +kernel)⟩
theorem lw_p8 : lw_okq (⟨"SearchGrids$Cell", "reckonGains", "()V"⟩, 10) := ⟨⟨by decide +kernel, by decide +kernel⟩, List.mem_of_getElem? (i := 18) (by decide +kernel), List.mem_of_getElem? (i := 233) (by decide +kernel), List.mem_of_getElem? (i := 234) (by decide +kernel)⟩
theorem lw_p9 : lw_okq (⟨"SearchGrids$Cell", "finds", "([I)J"⟩, 10) := ⟨⟨by decide +kernel, by decide +kernel⟩, List.mem_of_getElem? (i := 18) (by decide +kernel), List.mem_of_getElem? (i := 237) (by decide +kernel), List.mem_of_getElem? (i := 238) (by decide +kernel)⟩
theorem lw_p10 : lw_okq (⟨"SearchGrids$Cell", "weight", "()J"⟩, 10) := ⟨⟨by decide +kernel, by decide +kernel⟩, List.mem_of_getElem? (i := 18) (by decide +kernel), List.mem_of_getElem? (i := 241) (by decide +kernel), List.mem_of_getElem? (i := 242) (by decide +kernel)⟩
theorem lw_p11 : lw_okq (⟨"SearchGrids$Cell", "missed", "([I)J"⟩, 10) := ⟨⟨by decide +kernel, by decide +kernel⟩, List.mem_of_getElem? (i := 18) (by decide +kernel), List.mem_of_getElem? (i := 246) (by decide +kernel), List.mem_of_getElem? (i := 247) (by decide +kernel)⟩
theorem lw_p12 : lw_okq (⟨"SearchGrids$Cell", "missedBy", "(II)J"⟩, 10) := ⟨⟨by decide +kernel, by decide +kernel⟩, List.mem_of_getElem? (i := 18) (by decide +kernel), List.mem_of_getElem? (i := 250) (by decide +kernel), List.mem_of_getElem? (i := 251) (by decide +kernel)⟩
theorem lw_p13 : lw_okq (⟨"SearchGrids", "giveBestHour", "()Z"⟩, 12) := ⟨⟨by decide +kernel, by decide +kernel⟩, List.mem_of_getElem? (i := 8) (by decide +kernel), List.mem_of_getElem? (i := 257) (by decide +kernel), List.mem_of_getElem? (i := 258) (by decide +kernel)⟩
theorem lw_p14 : lw_okq (⟨"SearchGrids", "plannedHours", "()I"⟩, 12) := ⟨⟨by decide +kernel, by decide +kernel⟩, List.mem_of_getElem? (i := 8) (by decide +kernel), List.mem_of_getElem? (i := 269) (by decide +kernel), List.mem_of_getElem? (i := 270) (by decide +kernel)⟩
theorem lw_p15 : lw_okq (⟨"SearchGrids", "plannedFinds", "()J"⟩, 12) := ⟨⟨by decide +kernel, by decide +kernel⟩, List.mem_of_getElem? (i := 8) (by decide +kernel), List.mem_of_getElem? (i := 273) (by decide +kernel), List.mem_of_getElem? (i := 274) (by decide +kernel)⟩
def lw_privs_1 : List (MethodName × Nat) := [(⟨"SearchGrids", "isCell", "(I)Z"⟩, 12), (⟨"SearchGrids", "tellOf", "(I)I"⟩, 12), (⟨"SearchGrids", "placeOf", "(I)I"⟩, 12), (⟨"SearchGrids", "dropPlan", "()V"⟩, 12), (⟨"SearchGrids", "allCounts", "()J"⟩, 12), (⟨"SearchGrids$Looker", "begin", "(I)V"⟩, 5), (⟨"SearchGrids", "isLooker", "(I)Z"⟩, 12), (⟨"SearchGrids$Looker", "takeAway", "(II)V"⟩, 5), (⟨"SearchGrids$Cell", "reckonGains", "()V"⟩, 10), (⟨"SearchGrids$Cell", "finds", "([I)J"⟩, 10), (⟨"SearchGrids$Cell", "weight", "()J"⟩, 10), (⟨"SearchGrids$Cell", "missed", "([I)J"⟩, 10), (⟨"SearchGrids$Cell", "missedBy", "(II)J"⟩, 10), (⟨"SearchGrids", "giveBestHour", "()Z"⟩, 12), (⟨"SearchGrids", "plannedHours", "()I"⟩, 12), (⟨"SearchGrids", "plannedFinds", "()J"⟩, 12)]
theorem lw_r1 : ∀ q ∈ lw_privs_1, lw_okq q := List.forall_mem_cons.mpr ⟨lw_p0, List.forall_mem_cons.mpr ⟨lw_p1, List.forall_mem_cons.mpr ⟨lw_p2, List.forall_mem_cons.mpr ⟨lw_p3, List.forall_mem_cons.mpr ⟨lw_p4, List.forall_mem_cons.mpr ⟨lw_p5, List.forall_mem_cons.mpr ⟨lw_p6, List.forall_mem_cons.mpr ⟨lw_p7, List.forall_mem_cons.mpr ⟨lw_p8, List.forall_mem_cons.mpr ⟨lw_p9, List.forall_mem_cons.mpr ⟨lw_p10, List.forall_mem_cons.mpr ⟨lw_p11, List.forall_mem_cons.mpr ⟨lw_p12, List.forall_mem_cons.mpr ⟨lw_p13, List.forall_mem_cons.mpr ⟨lw_p14, List.forall_mem_cons.mpr ⟨lw_p15, fun _ h => absurd h List.not_mem_nil⟩⟩⟩⟩⟩⟩⟩⟩⟩⟩⟩⟩⟩⟩⟩⟩
theorem lw_p16 : lw_okq (⟨"SearchGrids", "isOutdone", "(IIIJJ)Z"⟩, 12) := ⟨⟨by decide +kernel, by decide +kernel⟩, List.mem_of_getElem? (i := 8) (by decide +kernel), List.mem_of_getElem? (i := 278) (by decide +kernel), List.mem_of_getElem? (i := 279) (by decide +kernel)⟩
theorem lw_p17 : lw_okq (⟨"SearchGrids$LookLog", "add", "(IIIJ)I"⟩, 6) := ⟨⟨by decide +kernel, by decide +kernel⟩, List.mem_of_getElem? (i := 90) (by decide +kernel), List.mem_of_getElem? (i := 287) (by decide +kernel), List.mem_of_getElem? (i := 288) (by decide +kernel)⟩
theorem lw_p18 : lw_okq (⟨"SearchGrids$Cell", "remains", "()J"⟩, 10) := ⟨⟨by decide +kernel, by decide +kernel⟩, List.mem_of_getElem? (i := 18) (by decide +kernel), List.mem_of_getElem? (i := 295) (by decide +kernel), List.mem_of_getElem? (i := 296) (by decide +kernel)⟩
theorem lw_p19 : lw_okq (⟨"SearchGrids", "allRemains", "()J"⟩, 12) := ⟨⟨by decide +kernel, by decide +kernel⟩, List.mem_of_getElem? (i := 8) (by decide +kernel), List.mem_of_getElem? (i := 299) (by decide +kernel), List.mem_of_getElem? (i := 300) (by decide +kernel)⟩
theorem lw_p20 : lw_okq (⟨"SearchGrids", "standingOf", "(LSearchGrids$Cell;)J"⟩, 12) := ⟨⟨by decide +kernel, by decide +kernel⟩, List.mem_of_getElem? (i := 8) (by decide +kernel), List.mem_of_getElem? (i := 351) (by decide +kernel), List.mem_of_getElem? (i := 352) (by decide +kernel)⟩
theorem lw_p21 : lw_okq (⟨"SearchGrids", "countBefore", "(I)I"⟩, 12) := ⟨⟨by decide +kernel, by decide +kernel⟩, List.mem_of_getElem? (i := 8) (by decide +kernel), List.mem_of_getElem? (i := 355) (by decide +kernel), List.mem_of_getElem? (i := 356) (by decide +kernel)⟩
theorem lw_p22 : lw_okq (⟨"SearchGridsModel", "isCell", "(I)Z"⟩, 21) := ⟨⟨by decide +kernel, by decide +kernel⟩, List.mem_of_getElem? (i := 375) (by decide +kernel), List.mem_of_getElem? (i := 454) (by decide +kernel), List.mem_of_getElem? (i := 455) (by decide +kernel)⟩
theorem lw_p23 : lw_okq (⟨"SearchGridsModel", "place", "(I)I"⟩, 21) := ⟨⟨by decide +kernel, by decide +kernel⟩, List.mem_of_getElem? (i := 375) (by decide +kernel), List.mem_of_getElem? (i := 459) (by decide +kernel), List.mem_of_getElem? (i := 460) (by decide +kernel)⟩
theorem lw_p24 : lw_okq (⟨"SearchGridsModel", "tell", "(I)I"⟩, 21) := ⟨⟨by decide +kernel, by decide +kernel⟩, List.mem_of_getElem? (i := 375) (by decide +kernel), List.mem_of_getElem? (i := 463) (by decide +kernel), List.mem_of_getElem? (i := 464) (by decide +kernel)⟩
theorem lw_p25 : lw_okq (⟨"SearchGridsModel", "move", "(II)V"⟩, 21) := ⟨⟨by decide +kernel, by decide +kernel⟩, List.mem_of_getElem? (i := 375) (by decide +kernel), List.mem_of_getElem? (i := 467) (by decide +kernel), List.mem_of_getElem? (i := 468) (by decide +kernel)⟩
theorem lw_p26 : lw_okq (⟨"SearchGridsModel", "changed", "()V"⟩, 21) := ⟨⟨by decide +kernel, by decide +kernel⟩, List.mem_of_getElem? (i := 375) (by decide +kernel), List.mem_of_getElem? (i := 471) (by decide +kernel), List.mem_of_getElem? (i := 472) (by decide +kernel)⟩
theorem lw_p27 : lw_okq (⟨"SearchGridsModel", "isLooker", "(I)Z"⟩, 21) := ⟨⟨by decide +kernel, by decide +kernel⟩, List.mem_of_getElem? (i := 375) (by decide +kernel), List.mem_of_getElem? (i := 488) (by decide +kernel), List.mem_of_getElem? (i := 489) (by decide +kernel)⟩
theorem lw_p28 : lw_okq (⟨"SearchGridsModel", "worth", "([I)J"⟩, 21) := ⟨⟨by decide +kernel, by decide +kernel⟩, List.mem_of_getElem? (i := 375) (by decide +kernel), List.mem_of_getElem? (i := 511) (by decide +kernel), List.mem_of_getElem? (i := 512) (by decide +kernel)⟩
theorem lw_p29 : lw_okq (⟨"SearchGridsModel", "weight", "(I)I"⟩, 21) := ⟨⟨by decide +kernel, by decide +kernel⟩, List.mem_of_getElem? (i := 375) (by decide +kernel), List.mem_of_getElem? (i := 515) (by decide +kernel), List.mem_of_getElem? (i := 516) (by decide +kernel)⟩
theorem lw_p30 : lw_okq (⟨"SearchGridsModel", "missed", "([II)J"⟩, 21) := ⟨⟨by decide +kernel, by decide +kernel⟩, List.mem_of_getElem? (i := 375) (by decide +kernel), List.mem_of_getElem? (i := 520) (by decide +kernel), List.mem_of_getElem? (i := 521) (by decide +kernel)⟩
theorem lw_p31 : lw_okq (⟨"SearchGridsModel", "given", "([II)I"⟩, 21) := ⟨⟨by decide +kernel, by decide +kernel⟩, List.mem_of_getElem? (i := 375) (by decide +kernel), List.mem_of_getElem? (i := 524) (by decide +kernel), List.mem_of_getElem? (i := 525) (by decide +kernel)⟩
def lw_privs_2 : List (MethodName × Nat) := [(⟨"SearchGrids", "isOutdone", "(IIIJJ)Z"⟩, 12), (⟨"SearchGrids$LookLog", "add", "(IIIJ)I"⟩, 6), (⟨"SearchGrids$Cell", "remains", "()J"⟩, 10), (⟨"SearchGrids", "allRemains", "()J"⟩, 12), (⟨"SearchGrids", "standingOf", "(LSearchGrids$Cell;)J"⟩, 12), (⟨"SearchGrids", "countBefore", "(I)I"⟩, 12), (⟨"SearchGridsModel", "isCell", "(I)Z"⟩, 21), (⟨"SearchGridsModel", "place", "(I)I"⟩, 21), (⟨"SearchGridsModel", "tell", "(I)I"⟩, 21), (⟨"SearchGridsModel", "move", "(II)V"⟩, 21), (⟨"SearchGridsModel", "changed", "()V"⟩, 21), (⟨"SearchGridsModel", "isLooker", "(I)Z"⟩, 21), (⟨"SearchGridsModel", "worth", "([I)J"⟩, 21), (⟨"SearchGridsModel", "weight", "(I)I"⟩, 21), (⟨"SearchGridsModel", "missed", "([II)J"⟩, 21), (⟨"SearchGridsModel", "given", "([II)I"⟩, 21)]
theorem lw_r2 : ∀ q ∈ lw_privs_2, lw_okq q := List.forall_mem_cons.mpr ⟨lw_p16, List.forall_mem_cons.mpr ⟨lw_p17, List.forall_mem_cons.mpr ⟨lw_p18, List.forall_mem_cons.mpr ⟨lw_p19, List.forall_mem_cons.mpr ⟨lw_p20, List.forall_mem_cons.mpr ⟨lw_p21, List.forall_mem_cons.mpr ⟨lw_p22, List.forall_mem_cons.mpr ⟨lw_p23, List.forall_mem_cons.mpr ⟨lw_p24, List.forall_mem_cons.mpr ⟨lw_p25, List.forall_mem_cons.mpr ⟨lw_p26, List.forall_mem_cons.mpr ⟨lw_p27, List.forall_mem_cons.mpr ⟨lw_p28, List.forall_mem_cons.mpr ⟨lw_p29, List.forall_mem_cons.mpr ⟨lw_p30, List.forall_mem_cons.mpr ⟨lw_p31, fun _ h => absurd h List.not_mem_nil⟩⟩⟩⟩⟩⟩⟩⟩⟩⟩⟩⟩⟩⟩⟩⟩
theorem lw_p32 : lw_okq (⟨"SearchGridsModel", "use", "(I)I"⟩, 21) := ⟨⟨by decide +kernel, by decide +kernel⟩, List.mem_of_getElem? (i := 375) (by decide +kernel), List.mem_of_getElem? (i := 528) (by decide +kernel), List.mem_of_getElem? (i := 529) (by decide +kernel)⟩
theorem lw_p33 : lw_okq (⟨"SearchGridsModel", "size", "()I"⟩, 21) := ⟨⟨by decide +kernel, by decide +kernel⟩, List.mem_of_getElem? (i := 375) (by decide +kernel), List.mem_of_getElem? (i := 532) (by decide +kernel), List.mem_of_getElem? (i := 533) (by decide +kernel)⟩
theorem lw_p34 : lw_okq (⟨"SearchGridsModel", "isBetter", "(IIJ)Z"⟩, 21) := ⟨⟨by decide +kernel, by decide +kernel⟩, List.mem_of_getElem? (i := 375) (by decide +kernel), List.mem_of_getElem? (i := 544) (by decide +kernel), List.mem_of_getElem? (i := 545) (by decide +kernel)⟩
theorem lw_p35 : lw_okq (⟨"SearchGridsModel", "slot", "(I)I"⟩, 21) := ⟨⟨by decide +kernel, by decide +kernel⟩, List.mem_of_getElem? (i := 375) (by decide +kernel), List.mem_of_getElem? (i := 548) (by decide +kernel), List.mem_of_getElem? (i := 549) (by decide +kernel)⟩
theorem lw_p36 : lw_okq (⟨"SearchGridsModel", "all", "()J"⟩, 21) := ⟨⟨by decide +kernel, by decide +kernel⟩, List.mem_of_getElem? (i := 375) (by decide +kernel), List.mem_of_getElem? (i := 557) (by decide +kernel), List.mem_of_getElem? (i := 558) (by decide +kernel)⟩
theorem lw_p37 : lw_okq (⟨"SearchGridsModel", "left", "()J"⟩, 21) := ⟨⟨by decide +kernel, by decide +kernel⟩, List.mem_of_getElem? (i := 375) (by decide +kernel), List.mem_of_getElem? (i := 571) (by decide +kernel), List.mem_of_getElem? (i := 572) (by decide +kernel)⟩
theorem lw_p38 : lw_okq (⟨"SearchGridsModel", "rank", "(I)J"⟩, 21) := ⟨⟨by decide +kernel, by decide +kernel⟩, List.mem_of_getElem? (i := 375) (by decide +kernel), List.mem_of_getElem? (i := 599) (by decide +kernel), List.mem_of_getElem? (i := 600) (by decide +kernel)⟩
def lw_privs_3 : List (MethodName × Nat) := [(⟨"SearchGridsModel", "use", "(I)I"⟩, 21), (⟨"SearchGridsModel", "size", "()I"⟩, 21), (⟨"SearchGridsModel", "isBetter", "(IIJ)Z"⟩, 21), (⟨"SearchGridsModel", "slot", "(I)I"⟩, 21), (⟨"SearchGridsModel", "all", "()J"⟩, 21), (⟨"SearchGridsModel", "left", "()J"⟩, 21), (⟨"SearchGridsModel", "rank", "(I)J"⟩, 21)]
theorem lw_r3 : ∀ q ∈ lw_privs_3, lw_okq q := List.forall_mem_cons.mpr ⟨lw_p32, List.forall_mem_cons.mpr ⟨lw_p33, List.forall_mem_cons.mpr ⟨lw_p34, List.forall_mem_cons.mpr ⟨lw_p35, List.forall_mem_cons.mpr ⟨lw_p36, List.forall_mem_cons.mpr ⟨lw_p37, List.forall_mem_cons.mpr ⟨lw_p38, fun _ h => absurd h List.not_mem_nil⟩⟩⟩⟩⟩⟩⟩
def lw_privs : List (MethodName × Nat) := lw_privs_1 ++ (lw_privs_2 ++ (lw_privs_3))
def lw_tbl : List Cond := k2_sels lw_privs ++ tables_1
theorem lw_privs_ok : ∀ q ∈ lw_privs, lw_okq q := by
  show ∀ q ∈ lw_privs_1 ++ (lw_privs_2 ++ (lw_privs_3)), lw_okq q
  exact List.forall_mem_append.mpr ⟨lw_r1, List.forall_mem_append.mpr ⟨lw_r2, lw_r3⟩⟩
-- ===== the tables, by wip/whole/names.py =====
def sg_tbl : List Cond := lw_tbl.filter goodWord
theorem gd {i : Nat} {w : Cond} (h : lw_tbl[i]? = some w) (hg : goodWord w = true) : w ∈ sg_tbl := List.mem_filter.mpr ⟨List.mem_of_getElem? h, hg⟩
theorem sg_good : ∀ w ∈ sg_tbl, (w.onTables && w.keeps) = true ∨ ∃ ty, w = .arrayClass ty := fun w h => good_of_word (List.mem_filter.mp h).2
theorem wd_0 : Jvm.Cond.initialized "SearchGridsLaw" ∈ sg_tbl := gd (i := 39) (by decide +kernel) rfl
theorem wd_1 : Jvm.Cond.initialized "SearchGrids" ∈ sg_tbl := gd (i := 40) (by decide +kernel) rfl
theorem wd_2 : Jvm.Cond.initialized "SearchGrids$Cell" ∈ sg_tbl := gd (i := 41) (by decide +kernel) rfl
theorem wd_3 : Jvm.Cond.initialized "SearchGrids$Looker" ∈ sg_tbl := gd (i := 42) (by decide +kernel) rfl
theorem wd_4 : Jvm.Cond.initialized "SearchGrids$LookLog" ∈ sg_tbl := gd (i := 43) (by decide +kernel) rfl
theorem wd_5 : Jvm.Cond.initialized "SearchGridsModel" ∈ sg_tbl := gd (i := 44) (by decide +kernel) rfl
theorem wd_6 : Jvm.Cond.initialized "java/lang/Math" ∈ sg_tbl := gd (i := 45) (by decide +kernel) rfl
theorem wd_7 : Jvm.Cond.classLink "SearchGridsLaw" (7 : Nat) "SearchGrids" ∈ sg_tbl := gd (i := 46) (by decide +kernel) rfl
theorem wd_8 : Jvm.Cond.instantiable "SearchGrids" (12 : Nat) ∈ sg_tbl := gd (i := 47) (by decide +kernel) rfl
theorem wd_9 : Jvm.Cond.methodLink "SearchGridsLaw" (15 : Nat) ({ cls := "SearchGrids", name := "<init>", desc := "(I)V" } : Jvm.MethodName) ∈ sg_tbl := gd (i := 48) (by decide +kernel) rfl
theorem wd_10 : Jvm.Cond.instanceMethod ({ cls := "SearchGrids", name := "<init>", desc := "(I)V" } : Jvm.MethodName) ∈ sg_tbl := gd (i := 49) (by decide +kernel) rfl
set_option maxRecDepth 100000 in
theorem wd_11 : Jvm.Cond.code ({ cls := "SearchGrids", name := "<init>", desc := "(I)V" } : Jvm.MethodName) prog_1_method_1_code (3 : Nat) (Option.none : Option Jvm.ClassFile.FieldType) ∈ sg_tbl := gd (i := 50) rfl rfl
theorem wd_12 : Jvm.Cond.methodLink "SearchGrids" (1 : Nat) ({ cls := "java/lang/Object", name := "<init>", desc := "()V" } : Jvm.MethodName) ∈ sg_tbl := gd (i := 51) (by decide +kernel) rfl
theorem wd_13 : Jvm.Cond.instanceMethod ({ cls := "java/lang/Object", name := "<init>", desc := "()V" } : Jvm.MethodName) ∈ sg_tbl := gd (i := 52) (by decide +kernel) rfl
set_option maxRecDepth 100000 in
theorem wd_14 : Jvm.Cond.code ({ cls := "java/lang/Object", name := "<init>", desc := "()V" } : Jvm.MethodName) object_method_1_code (1 : Nat) (Option.none : Option Jvm.ClassFile.FieldType) ∈ sg_tbl := gd (i := 53) rfl rfl
theorem wd_15 : Jvm.Cond.constant "SearchGrids" (9 : Nat) (65536 : Int32) ∈ sg_tbl := gd (i := 54) (by decide +kernel) rfl
theorem wd_16 : Jvm.Cond.classLink "SearchGrids" (18 : Nat) "SearchGrids$Cell" ∈ sg_tbl := gd (i := 55) (by decide +kernel) rfl
theorem wd_18 : Jvm.Cond.instantiable "SearchGrids$Cell" (10 : Nat) ∈ sg_tbl := gd (i := 57) (by decide +kernel) rfl
theorem wd_20 : Jvm.Cond.instanceMethod ({ cls := "SearchGrids$Cell", name := "<init>", desc := "([I)V" } : Jvm.MethodName) ∈ sg_tbl := gd (i := 59) (by decide +kernel) rfl
set_option maxRecDepth 100000 in
theorem wd_21 : Jvm.Cond.code ({ cls := "SearchGrids$Cell", name := "<init>", desc := "([I)V" } : Jvm.MethodName) prog_2_method_1_code (2 : Nat) (Option.none : Option Jvm.ClassFile.FieldType) ∈ sg_tbl := gd (i := 60) rfl rfl
theorem wd_22 : Jvm.Cond.methodLink "SearchGrids$Cell" (3 : Nat) ({ cls := "java/lang/Object", name := "<init>", desc := "()V" } : Jvm.MethodName) ∈ sg_tbl := gd (i := 61) (by decide +kernel) rfl
theorem wd_23 : Jvm.Cond.fieldLink "SearchGrids$Cell" (38 : Nat) "SearchGrids$Cell" "rates" "[I" ∈ sg_tbl := gd (i := 62) (by decide +kernel) rfl
theorem wd_24 : Jvm.Cond.fieldLink "SearchGrids$Cell" (9 : Nat) "SearchGrids$Cell" "countOf" "[I" ∈ sg_tbl := gd (i := 63) (by decide +kernel) rfl
theorem wd_26 : Jvm.Cond.fieldLink "SearchGrids$Cell" (15 : Nat) "SearchGrids$Cell" "planned" "[I" ∈ sg_tbl := gd (i := 65) (by decide +kernel) rfl
theorem wd_28 : Jvm.Cond.fieldLink "SearchGrids$Cell" (18 : Nat) "SearchGrids$Cell" "looked" "[I" ∈ sg_tbl := gd (i := 67) (by decide +kernel) rfl
theorem wd_30 : Jvm.Cond.fieldLink "SearchGrids$Cell" (21 : Nat) "SearchGrids$Cell" "trial" "[I" ∈ sg_tbl := gd (i := 69) (by decide +kernel) rfl
theorem wd_32 : Jvm.Cond.fieldLink "SearchGrids$Cell" (24 : Nat) "SearchGrids$Cell" "gains" "[J" ∈ sg_tbl := gd (i := 71) (by decide +kernel) rfl
theorem wd_34 : Jvm.Cond.fieldLink "SearchGrids$Cell" (28 : Nat) "SearchGrids$Cell" "number" "I" ∈ sg_tbl := gd (i := 73) (by decide +kernel) rfl
theorem wd_36 : Jvm.Cond.fieldLink "SearchGrids$Cell" (32 : Nat) "SearchGrids$Cell" "squares" "I" ∈ sg_tbl := gd (i := 75) (by decide +kernel) rfl
theorem wd_38 : Jvm.Cond.fieldLink "SearchGrids$Cell" (35 : Nat) "SearchGrids$Cell" "scale" "I" ∈ sg_tbl := gd (i := 77) (by decide +kernel) rfl
theorem wd_41 : Jvm.Cond.laysFinal "SearchGrids$Cell" "SearchGrids$Cell" "rates" "[I" ∈ sg_tbl := gd (i := 80) (by decide +kernel) rfl
theorem wd_43 : Jvm.Cond.laysFinal "SearchGrids$Cell" "SearchGrids$Cell" "countOf" "[I" ∈ sg_tbl := gd (i := 82) (by decide +kernel) rfl
theorem wd_45 : Jvm.Cond.laysFinal "SearchGrids$Cell" "SearchGrids$Cell" "planned" "[I" ∈ sg_tbl := gd (i := 84) (by decide +kernel) rfl
theorem wd_47 : Jvm.Cond.laysFinal "SearchGrids$Cell" "SearchGrids$Cell" "looked" "[I" ∈ sg_tbl := gd (i := 86) (by decide +kernel) rfl
theorem wd_49 : Jvm.Cond.laysFinal "SearchGrids$Cell" "SearchGrids$Cell" "trial" "[I" ∈ sg_tbl := gd (i := 88) (by decide +kernel) rfl
theorem wd_51 : Jvm.Cond.laysFinal "SearchGrids$Cell" "SearchGrids$Cell" "gains" "[J" ∈ sg_tbl := gd (i := 90) (by decide +kernel) rfl
theorem wd_53 : Jvm.Cond.lays "SearchGrids$Cell" "SearchGrids$Cell" "number" "I" ∈ sg_tbl := gd (i := 92) (by decide +kernel) rfl
theorem wd_55 : Jvm.Cond.lays "SearchGrids$Cell" "SearchGrids$Cell" "squares" "I" ∈ sg_tbl := gd (i := 94) (by decide +kernel) rfl
theorem wd_57 : Jvm.Cond.lays "SearchGrids$Cell" "SearchGrids$Cell" "scale" "I" ∈ sg_tbl := gd (i := 96) (by decide +kernel) rfl
theorem wd_59 : Jvm.Cond.lays "SearchGrids$Cell" "SearchGrids$Cell" "standing" "J" ∈ sg_tbl := gd (i := 98) (by decide +kernel) rfl
theorem wd_62 : Jvm.Cond.arrayClass Jvm.ClassFile.FieldType.int ∈ sg_tbl := gd (i := 101) (by decide +kernel) rfl
theorem wd_63 : Jvm.Cond.arrayClass Jvm.ClassFile.FieldType.long ∈ sg_tbl := gd (i := 102) (by decide +kernel) rfl
theorem wd_64 : Jvm.Cond.classLink "SearchGrids" (27 : Nat) "SearchGrids$Looker" ∈ sg_tbl := gd (i := 103) (by decide +kernel) rfl
theorem wd_66 : Jvm.Cond.instantiable "SearchGrids$Looker" (5 : Nat) ∈ sg_tbl := gd (i := 105) (by decide +kernel) rfl
theorem wd_68 : Jvm.Cond.instanceMethod ({ cls := "SearchGrids$Looker", name := "<init>", desc := "()V" } : Jvm.MethodName) ∈ sg_tbl := gd (i := 107) (by decide +kernel) rfl
set_option maxRecDepth 100000 in
theorem wd_69 : Jvm.Cond.code ({ cls := "SearchGrids$Looker", name := "<init>", desc := "()V" } : Jvm.MethodName) prog_4_method_1_code (1 : Nat) (Option.none : Option Jvm.ClassFile.FieldType) ∈ sg_tbl := gd (i := 108) rfl rfl
theorem wd_70 : Jvm.Cond.methodLink "SearchGrids$Looker" (3 : Nat) ({ cls := "java/lang/Object", name := "<init>", desc := "()V" } : Jvm.MethodName) ∈ sg_tbl := gd (i := 109) (by decide +kernel) rfl
theorem wd_71 : Jvm.Cond.fieldLink "SearchGrids$Looker" (9 : Nat) "SearchGrids$Looker" "useless" "[Z" ∈ sg_tbl := gd (i := 110) (by decide +kernel) rfl
theorem wd_72 : Jvm.Cond.fieldLink "SearchGrids$Looker" (15 : Nat) "SearchGrids$Looker" "hours" "I" ∈ sg_tbl := gd (i := 111) (by decide +kernel) rfl
theorem wd_73 : Jvm.Cond.fieldLink "SearchGrids$Looker" (19 : Nat) "SearchGrids$Looker" "use" "I" ∈ sg_tbl := gd (i := 112) (by decide +kernel) rfl
theorem wd_77 : Jvm.Cond.laysFinal "SearchGrids$Looker" "SearchGrids$Looker" "useless" "[Z" ∈ sg_tbl := gd (i := 116) (by decide +kernel) rfl
theorem wd_79 : Jvm.Cond.lays "SearchGrids$Looker" "SearchGrids$Looker" "hours" "I" ∈ sg_tbl := gd (i := 118) (by decide +kernel) rfl
theorem wd_81 : Jvm.Cond.lays "SearchGrids$Looker" "SearchGrids$Looker" "use" "I" ∈ sg_tbl := gd (i := 120) (by decide +kernel) rfl
theorem wd_83 : Jvm.Cond.lays "SearchGrids$Looker" "SearchGrids$Looker" "given" "I" ∈ sg_tbl := gd (i := 122) (by decide +kernel) rfl
theorem wd_85 : Jvm.Cond.lays "SearchGrids$Looker" "SearchGrids$Looker" "trial" "I" ∈ sg_tbl := gd (i := 124) (by decide +kernel) rfl
theorem wd_88 : Jvm.Cond.arrayClass Jvm.ClassFile.FieldType.boolean ∈ sg_tbl := gd (i := 127) (by decide +kernel) rfl
theorem wd_89 : Jvm.Cond.classLink "SearchGrids" (37 : Nat) "SearchGrids$LookLog" ∈ sg_tbl := gd (i := 128) (by decide +kernel) rfl
theorem wd_90 : Jvm.Cond.instantiable "SearchGrids$LookLog" (6 : Nat) ∈ sg_tbl := gd (i := 129) (by decide +kernel) rfl
theorem wd_92 : Jvm.Cond.instanceMethod ({ cls := "SearchGrids$LookLog", name := "<init>", desc := "()V" } : Jvm.MethodName) ∈ sg_tbl := gd (i := 131) (by decide +kernel) rfl
set_option maxRecDepth 100000 in
theorem wd_93 : Jvm.Cond.code ({ cls := "SearchGrids$LookLog", name := "<init>", desc := "()V" } : Jvm.MethodName) prog_3_method_1_code (1 : Nat) (Option.none : Option Jvm.ClassFile.FieldType) ∈ sg_tbl := gd (i := 132) rfl rfl
theorem wd_94 : Jvm.Cond.methodLink "SearchGrids$LookLog" (3 : Nat) ({ cls := "java/lang/Object", name := "<init>", desc := "()V" } : Jvm.MethodName) ∈ sg_tbl := gd (i := 133) (by decide +kernel) rfl
theorem wd_95 : Jvm.Cond.fieldLink "SearchGrids$LookLog" (9 : Nat) "SearchGrids$LookLog" "lookers" "[I" ∈ sg_tbl := gd (i := 134) (by decide +kernel) rfl
theorem wd_97 : Jvm.Cond.fieldLink "SearchGrids$LookLog" (15 : Nat) "SearchGrids$LookLog" "cells" "[I" ∈ sg_tbl := gd (i := 136) (by decide +kernel) rfl
theorem wd_99 : Jvm.Cond.fieldLink "SearchGrids$LookLog" (18 : Nat) "SearchGrids$LookLog" "hours" "[I" ∈ sg_tbl := gd (i := 138) (by decide +kernel) rfl
theorem wd_101 : Jvm.Cond.fieldLink "SearchGrids$LookLog" (21 : Nat) "SearchGrids$LookLog" "tolds" "[J" ∈ sg_tbl := gd (i := 140) (by decide +kernel) rfl
theorem wd_102 : Jvm.Cond.fieldLink "SearchGrids$LookLog" (25 : Nat) "SearchGrids$LookLog" "byTold" "[I" ∈ sg_tbl := gd (i := 141) (by decide +kernel) rfl
theorem wd_104 : Jvm.Cond.fieldLink "SearchGrids$LookLog" (28 : Nat) "SearchGrids$LookLog" "size" "I" ∈ sg_tbl := gd (i := 143) (by decide +kernel) rfl
theorem wd_106 : Jvm.Cond.laysFinal "SearchGrids$LookLog" "SearchGrids$LookLog" "lookers" "[I" ∈ sg_tbl := gd (i := 145) (by decide +kernel) rfl
theorem wd_108 : Jvm.Cond.laysFinal "SearchGrids$LookLog" "SearchGrids$LookLog" "cells" "[I" ∈ sg_tbl := gd (i := 147) (by decide +kernel) rfl
theorem wd_110 : Jvm.Cond.laysFinal "SearchGrids$LookLog" "SearchGrids$LookLog" "hours" "[I" ∈ sg_tbl := gd (i := 149) (by decide +kernel) rfl
theorem wd_112 : Jvm.Cond.laysFinal "SearchGrids$LookLog" "SearchGrids$LookLog" "tolds" "[J" ∈ sg_tbl := gd (i := 151) (by decide +kernel) rfl
theorem wd_114 : Jvm.Cond.laysFinal "SearchGrids$LookLog" "SearchGrids$LookLog" "byTold" "[I" ∈ sg_tbl := gd (i := 153) (by decide +kernel) rfl
theorem wd_116 : Jvm.Cond.lays "SearchGrids$LookLog" "SearchGrids$LookLog" "size" "I" ∈ sg_tbl := gd (i := 155) (by decide +kernel) rfl
theorem wd_119 : Jvm.Cond.fieldLink "SearchGrids" (10 : Nat) "SearchGrids" "cells" "I" ∈ sg_tbl := gd (i := 158) (by decide +kernel) rfl
theorem wd_120 : Jvm.Cond.fieldLink "SearchGrids" (20 : Nat) "SearchGrids" "toldCells" "[LSearchGrids$Cell;" ∈ sg_tbl := gd (i := 159) (by decide +kernel) rfl
theorem wd_121 : Jvm.Cond.fieldLink "SearchGrids" (111 : Nat) "SearchGrids" "toldCount" "I" ∈ sg_tbl := gd (i := 160) (by decide +kernel) rfl
theorem wd_122 : Jvm.Cond.fieldLink "SearchGrids" (29 : Nat) "SearchGrids" "lookers" "[LSearchGrids$Looker;" ∈ sg_tbl := gd (i := 161) (by decide +kernel) rfl
theorem wd_123 : Jvm.Cond.fieldLink "SearchGrids" (79 : Nat) "SearchGrids" "lookerCount" "I" ∈ sg_tbl := gd (i := 162) (by decide +kernel) rfl
theorem wd_124 : Jvm.Cond.fieldLink "SearchGrids" (14 : Nat) "SearchGrids" "rates" "[I" ∈ sg_tbl := gd (i := 163) (by decide +kernel) rfl
theorem wd_125 : Jvm.Cond.fieldLink "SearchGrids" (34 : Nat) "SearchGrids" "thingCount" "I" ∈ sg_tbl := gd (i := 164) (by decide +kernel) rfl
theorem wd_126 : Jvm.Cond.fieldLink "SearchGrids" (40 : Nat) "SearchGrids" "looks" "LSearchGrids$LookLog;" ∈ sg_tbl := gd (i := 165) (by decide +kernel) rfl
theorem wd_127 : Jvm.Cond.fieldLink "SearchGrids" (44 : Nat) "SearchGrids" "seenCell" "I" ∈ sg_tbl := gd (i := 166) (by decide +kernel) rfl
theorem wd_128 : Jvm.Cond.fieldLink "SearchGrids" (169 : Nat) "SearchGrids" "stopAbove" "J" ∈ sg_tbl := gd (i := 167) (by decide +kernel) rfl
theorem wd_129 : Jvm.Cond.fieldLink "SearchGrids" (173 : Nat) "SearchGrids" "stopBelow" "J" ∈ sg_tbl := gd (i := 168) (by decide +kernel) rfl
theorem wd_130 : Jvm.Cond.fieldLink "SearchGrids" (47 : Nat) "SearchGrids" "gone" "[Z" ∈ sg_tbl := gd (i := 169) (by decide +kernel) rfl
theorem wd_131 : Jvm.Cond.laysFinal "SearchGrids" "SearchGrids" "cells" "I" ∈ sg_tbl := gd (i := 170) (by decide +kernel) rfl
theorem wd_133 : Jvm.Cond.laysFinal "SearchGrids" "SearchGrids" "toldCells" "[LSearchGrids$Cell;" ∈ sg_tbl := gd (i := 172) (by decide +kernel) rfl
theorem wd_135 : Jvm.Cond.lays "SearchGrids" "SearchGrids" "toldCount" "I" ∈ sg_tbl := gd (i := 174) (by decide +kernel) rfl
theorem wd_137 : Jvm.Cond.laysFinal "SearchGrids" "SearchGrids" "lookers" "[LSearchGrids$Looker;" ∈ sg_tbl := gd (i := 176) (by decide +kernel) rfl
theorem wd_139 : Jvm.Cond.lays "SearchGrids" "SearchGrids" "lookerCount" "I" ∈ sg_tbl := gd (i := 178) (by decide +kernel) rfl
theorem wd_141 : Jvm.Cond.laysFinal "SearchGrids" "SearchGrids" "rates" "[I" ∈ sg_tbl := gd (i := 180) (by decide +kernel) rfl
theorem wd_143 : Jvm.Cond.lays "SearchGrids" "SearchGrids" "thingCount" "I" ∈ sg_tbl := gd (i := 182) (by decide +kernel) rfl
theorem wd_145 : Jvm.Cond.laysFinal "SearchGrids" "SearchGrids" "looks" "LSearchGrids$LookLog;" ∈ sg_tbl := gd (i := 184) (by decide +kernel) rfl
theorem wd_147 : Jvm.Cond.lays "SearchGrids" "SearchGrids" "seenCell" "I" ∈ sg_tbl := gd (i := 186) (by decide +kernel) rfl
theorem wd_149 : Jvm.Cond.lays "SearchGrids" "SearchGrids" "stopAbove" "J" ∈ sg_tbl := gd (i := 188) (by decide +kernel) rfl
theorem wd_151 : Jvm.Cond.lays "SearchGrids" "SearchGrids" "stopBelow" "J" ∈ sg_tbl := gd (i := 190) (by decide +kernel) rfl
theorem wd_153 : Jvm.Cond.laysFinal "SearchGrids" "SearchGrids" "gone" "[Z" ∈ sg_tbl := gd (i := 192) (by decide +kernel) rfl
theorem wd_156 : Jvm.Cond.methodLink "SearchGridsLaw" (23 : Nat) ({ cls := "SearchGrids", name := "counts", desc := "(IJ)Z" } : Jvm.MethodName) ∈ sg_tbl := gd (i := 195) (by decide +kernel) rfl
theorem wd_157 : Jvm.Cond.instanceMethod ({ cls := "SearchGrids", name := "counts", desc := "(IJ)Z" } : Jvm.MethodName) ∈ sg_tbl := gd (i := 196) (by decide +kernel) rfl
theorem wd_158 : Jvm.Cond.selects "SearchGrids" ({ cls := "SearchGrids", name := "counts", desc := "(IJ)Z" } : Jvm.MethodName) ({ cls := "SearchGrids", name := "counts", desc := "(IJ)Z" } : Jvm.MethodName) ∈ sg_tbl := gd (i := 197) (by decide +kernel) rfl
set_option maxRecDepth 100000 in
theorem wd_159 : Jvm.Cond.code ({ cls := "SearchGrids", name := "counts", desc := "(IJ)Z" } : Jvm.MethodName) prog_1_method_2_code (4 : Nat) (Option.some Jvm.ClassFile.FieldType.boolean) ∈ sg_tbl := gd (i := 198) rfl rfl
theorem wd_160 : Jvm.Cond.methodLink "SearchGrids" (51 : Nat) ({ cls := "SearchGrids", name := "countsOf", desc := "(IIJ)Z" } : Jvm.MethodName) ∈ sg_tbl := gd (i := 199) (by decide +kernel) rfl
theorem wd_161 : Jvm.Cond.instanceMethod ({ cls := "SearchGrids", name := "countsOf", desc := "(IIJ)Z" } : Jvm.MethodName) ∈ sg_tbl := gd (i := 200) (by decide +kernel) rfl
theorem wd_162 : Jvm.Cond.selects "SearchGrids" ({ cls := "SearchGrids", name := "countsOf", desc := "(IIJ)Z" } : Jvm.MethodName) ({ cls := "SearchGrids", name := "countsOf", desc := "(IIJ)Z" } : Jvm.MethodName) ∈ sg_tbl := gd (i := 201) (by decide +kernel) rfl
set_option maxRecDepth 100000 in
theorem wd_163 : Jvm.Cond.code ({ cls := "SearchGrids", name := "countsOf", desc := "(IIJ)Z" } : Jvm.MethodName) prog_1_method_17_code (6 : Nat) (Option.some Jvm.ClassFile.FieldType.boolean) ∈ sg_tbl := gd (i := 202) rfl rfl
theorem wd_164 : Jvm.Cond.methodLink "SearchGrids" (87 : Nat) ({ cls := "SearchGrids", name := "isWithin", desc := "(JJJ)Z" } : Jvm.MethodName) ∈ sg_tbl := gd (i := 203) (by decide +kernel) rfl
theorem wd_165 : Jvm.Cond.static ({ cls := "SearchGrids", name := "isWithin", desc := "(JJJ)Z" } : Jvm.MethodName) ∈ sg_tbl := gd (i := 204) (by decide +kernel) rfl
set_option maxRecDepth 100000 in
theorem wd_166 : Jvm.Cond.code ({ cls := "SearchGrids", name := "isWithin", desc := "(JJJ)Z" } : Jvm.MethodName) prog_1_method_27_code (6 : Nat) (Option.some Jvm.ClassFile.FieldType.boolean) ∈ sg_tbl := gd (i := 205) rfl rfl
theorem wd_167 : Jvm.Cond.methodLink "SearchGrids" (55 : Nat) ({ cls := "SearchGrids", name := "isCell", desc := "(I)Z" } : Jvm.MethodName) ∈ sg_tbl := gd (i := 206) (by decide +kernel) rfl
theorem wd_169 : Jvm.Cond.instanceMethod ({ cls := "SearchGrids", name := "isCell", desc := "(I)Z" } : Jvm.MethodName) ∈ sg_tbl := gd (i := 208) (by decide +kernel) rfl
set_option maxRecDepth 100000 in
theorem wd_170 : Jvm.Cond.code ({ cls := "SearchGrids", name := "isCell", desc := "(I)Z" } : Jvm.MethodName) prog_1_method_24_code (2 : Nat) (Option.some Jvm.ClassFile.FieldType.boolean) ∈ sg_tbl := gd (i := 209) rfl rfl
theorem wd_171 : Jvm.Cond.constantLong "SearchGrids" (85 : Nat) (1000 : Int64) ∈ sg_tbl := gd (i := 210) (by decide +kernel) rfl
theorem wd_172 : Jvm.Cond.methodLink "SearchGrids" (166 : Nat) ({ cls := "SearchGrids", name := "tellOf", desc := "(I)I" } : Jvm.MethodName) ∈ sg_tbl := gd (i := 211) (by decide +kernel) rfl
theorem wd_174 : Jvm.Cond.instanceMethod ({ cls := "SearchGrids", name := "tellOf", desc := "(I)I" } : Jvm.MethodName) ∈ sg_tbl := gd (i := 213) (by decide +kernel) rfl
set_option maxRecDepth 100000 in
theorem wd_175 : Jvm.Cond.code ({ cls := "SearchGrids", name := "tellOf", desc := "(I)I" } : Jvm.MethodName) prog_1_method_29_code (4 : Nat) (Option.some Jvm.ClassFile.FieldType.int) ∈ sg_tbl := gd (i := 214) rfl rfl
theorem wd_176 : Jvm.Cond.methodLink "SearchGrids" (68 : Nat) ({ cls := "SearchGrids", name := "placeOf", desc := "(I)I" } : Jvm.MethodName) ∈ sg_tbl := gd (i := 215) (by decide +kernel) rfl
theorem wd_178 : Jvm.Cond.instanceMethod ({ cls := "SearchGrids", name := "placeOf", desc := "(I)I" } : Jvm.MethodName) ∈ sg_tbl := gd (i := 217) (by decide +kernel) rfl
set_option maxRecDepth 100000 in
theorem wd_179 : Jvm.Cond.code ({ cls := "SearchGrids", name := "placeOf", desc := "(I)I" } : Jvm.MethodName) prog_1_method_28_code (3 : Nat) (Option.some Jvm.ClassFile.FieldType.int) ∈ sg_tbl := gd (i := 218) rfl rfl
theorem wd_180 : Jvm.Cond.methodLink "SearchGrids" (97 : Nat) ({ cls := "SearchGrids", name := "dropPlan", desc := "()V" } : Jvm.MethodName) ∈ sg_tbl := gd (i := 219) (by decide +kernel) rfl
theorem wd_182 : Jvm.Cond.instanceMethod ({ cls := "SearchGrids", name := "dropPlan", desc := "()V" } : Jvm.MethodName) ∈ sg_tbl := gd (i := 221) (by decide +kernel) rfl
set_option maxRecDepth 100000 in
theorem wd_183 : Jvm.Cond.code ({ cls := "SearchGrids", name := "dropPlan", desc := "()V" } : Jvm.MethodName) prog_1_method_32_code (3 : Nat) (Option.none : Option Jvm.ClassFile.FieldType) ∈ sg_tbl := gd (i := 222) rfl rfl
theorem wd_184 : Jvm.Cond.methodLink "SearchGridsLaw" (28 : Nat) ({ cls := "SearchGrids", name := "odds", desc := "(II)J" } : Jvm.MethodName) ∈ sg_tbl := gd (i := 223) (by decide +kernel) rfl
theorem wd_185 : Jvm.Cond.instanceMethod ({ cls := "SearchGrids", name := "odds", desc := "(II)J" } : Jvm.MethodName) ∈ sg_tbl := gd (i := 224) (by decide +kernel) rfl
theorem wd_186 : Jvm.Cond.selects "SearchGrids" ({ cls := "SearchGrids", name := "odds", desc := "(II)J" } : Jvm.MethodName) ({ cls := "SearchGrids", name := "odds", desc := "(II)J" } : Jvm.MethodName) ∈ sg_tbl := gd (i := 225) (by decide +kernel) rfl
set_option maxRecDepth 100000 in
theorem wd_187 : Jvm.Cond.code ({ cls := "SearchGrids", name := "odds", desc := "(II)J" } : Jvm.MethodName) prog_1_method_3_code (4 : Nat) (Option.some Jvm.ClassFile.FieldType.long) ∈ sg_tbl := gd (i := 226) rfl rfl
theorem wd_188 : Jvm.Cond.methodLink "SearchGrids" (59 : Nat) ({ cls := "SearchGrids", name := "isZeroOrOne", desc := "(I)Z" } : Jvm.MethodName) ∈ sg_tbl := gd (i := 227) (by decide +kernel) rfl
theorem wd_189 : Jvm.Cond.static ({ cls := "SearchGrids", name := "isZeroOrOne", desc := "(I)Z" } : Jvm.MethodName) ∈ sg_tbl := gd (i := 228) (by decide +kernel) rfl
set_option maxRecDepth 100000 in
theorem wd_190 : Jvm.Cond.code ({ cls := "SearchGrids", name := "isZeroOrOne", desc := "(I)Z" } : Jvm.MethodName) prog_1_method_26_code (1 : Nat) (Option.some Jvm.ClassFile.FieldType.boolean) ∈ sg_tbl := gd (i := 229) rfl rfl
theorem wd_191 : Jvm.Cond.constantLong "SearchGrids" (62 : Nat) (-1 : Int64) ∈ sg_tbl := gd (i := 230) (by decide +kernel) rfl
theorem wd_192 : Jvm.Cond.methodLink "SearchGrids" (64 : Nat) ({ cls := "SearchGrids", name := "fraction", desc := "(JJI)J" } : Jvm.MethodName) ∈ sg_tbl := gd (i := 231) (by decide +kernel) rfl
theorem wd_193 : Jvm.Cond.static ({ cls := "SearchGrids", name := "fraction", desc := "(JJI)J" } : Jvm.MethodName) ∈ sg_tbl := gd (i := 232) (by decide +kernel) rfl
set_option maxRecDepth 100000 in
theorem wd_194 : Jvm.Cond.code ({ cls := "SearchGrids", name := "fraction", desc := "(JJI)J" } : Jvm.MethodName) prog_1_method_42_code (7 : Nat) (Option.some Jvm.ClassFile.FieldType.long) ∈ sg_tbl := gd (i := 233) rfl rfl
theorem wd_195 : Jvm.Cond.methodLink "SearchGrids" (228 : Nat) ({ cls := "SearchGrids", name := "commonDivisor", desc := "(JJ)J" } : Jvm.MethodName) ∈ sg_tbl := gd (i := 234) (by decide +kernel) rfl
theorem wd_196 : Jvm.Cond.static ({ cls := "SearchGrids", name := "commonDivisor", desc := "(JJ)J" } : Jvm.MethodName) ∈ sg_tbl := gd (i := 235) (by decide +kernel) rfl
set_option maxRecDepth 100000 in
theorem wd_197 : Jvm.Cond.code ({ cls := "SearchGrids", name := "commonDivisor", desc := "(JJ)J" } : Jvm.MethodName) prog_1_method_43_code (11 : Nat) (Option.some Jvm.ClassFile.FieldType.long) ∈ sg_tbl := gd (i := 236) rfl rfl
theorem wd_198 : Jvm.Cond.methodLink "SearchGrids" (75 : Nat) ({ cls := "SearchGrids", name := "allCounts", desc := "()J" } : Jvm.MethodName) ∈ sg_tbl := gd (i := 237) (by decide +kernel) rfl
theorem wd_200 : Jvm.Cond.instanceMethod ({ cls := "SearchGrids", name := "allCounts", desc := "()J" } : Jvm.MethodName) ∈ sg_tbl := gd (i := 239) (by decide +kernel) rfl
set_option maxRecDepth 100000 in
theorem wd_201 : Jvm.Cond.code ({ cls := "SearchGrids", name := "allCounts", desc := "()J" } : Jvm.MethodName) prog_1_method_30_code (4 : Nat) (Option.some Jvm.ClassFile.FieldType.long) ∈ sg_tbl := gd (i := 240) rfl rfl
theorem wd_202 : Jvm.Cond.methodLink "SearchGridsLaw" (33 : Nat) ({ cls := "SearchGrids", name := "looker", desc := "(JJI)I" } : Jvm.MethodName) ∈ sg_tbl := gd (i := 241) (by decide +kernel) rfl
theorem wd_203 : Jvm.Cond.instanceMethod ({ cls := "SearchGrids", name := "looker", desc := "(JJI)I" } : Jvm.MethodName) ∈ sg_tbl := gd (i := 242) (by decide +kernel) rfl
theorem wd_204 : Jvm.Cond.selects "SearchGrids" ({ cls := "SearchGrids", name := "looker", desc := "(JJI)I" } : Jvm.MethodName) ({ cls := "SearchGrids", name := "looker", desc := "(JJI)I" } : Jvm.MethodName) ∈ sg_tbl := gd (i := 243) (by decide +kernel) rfl
set_option maxRecDepth 100000 in
theorem wd_205 : Jvm.Cond.code ({ cls := "SearchGrids", name := "looker", desc := "(JJI)I" } : Jvm.MethodName) prog_1_method_4_code (7 : Nat) (Option.some Jvm.ClassFile.FieldType.int) ∈ sg_tbl := gd (i := 244) rfl rfl
theorem wd_206 : Jvm.Cond.constantLong "SearchGrids" (91 : Nat) (24 : Int64) ∈ sg_tbl := gd (i := 245) (by decide +kernel) rfl
theorem wd_209 : Jvm.Cond.instanceMethod ({ cls := "SearchGrids$Looker", name := "begin", desc := "(I)V" } : Jvm.MethodName) ∈ sg_tbl := gd (i := 248) (by decide +kernel) rfl
set_option maxRecDepth 100000 in
theorem wd_210 : Jvm.Cond.code ({ cls := "SearchGrids$Looker", name := "begin", desc := "(I)V" } : Jvm.MethodName) prog_4_method_2_code (2 : Nat) (Option.none : Option Jvm.ClassFile.FieldType) ∈ sg_tbl := gd (i := 249) rfl rfl
theorem wd_211 : Jvm.Cond.methodLink "SearchGridsLaw" (38 : Nat) ({ cls := "SearchGrids", name := "bar", desc := "(II)Z" } : Jvm.MethodName) ∈ sg_tbl := gd (i := 250) (by decide +kernel) rfl
theorem wd_212 : Jvm.Cond.instanceMethod ({ cls := "SearchGrids", name := "bar", desc := "(II)Z" } : Jvm.MethodName) ∈ sg_tbl := gd (i := 251) (by decide +kernel) rfl
theorem wd_213 : Jvm.Cond.selects "SearchGrids" ({ cls := "SearchGrids", name := "bar", desc := "(II)Z" } : Jvm.MethodName) ({ cls := "SearchGrids", name := "bar", desc := "(II)Z" } : Jvm.MethodName) ∈ sg_tbl := gd (i := 252) (by decide +kernel) rfl
set_option maxRecDepth 100000 in
theorem wd_214 : Jvm.Cond.code ({ cls := "SearchGrids", name := "bar", desc := "(II)Z" } : Jvm.MethodName) prog_1_method_5_code (3 : Nat) (Option.some Jvm.ClassFile.FieldType.boolean) ∈ sg_tbl := gd (i := 253) rfl rfl
theorem wd_215 : Jvm.Cond.methodLink "SearchGrids" (100 : Nat) ({ cls := "SearchGrids", name := "isLooker", desc := "(I)Z" } : Jvm.MethodName) ∈ sg_tbl := gd (i := 254) (by decide +kernel) rfl
theorem wd_217 : Jvm.Cond.instanceMethod ({ cls := "SearchGrids", name := "isLooker", desc := "(I)Z" } : Jvm.MethodName) ∈ sg_tbl := gd (i := 256) (by decide +kernel) rfl
set_option maxRecDepth 100000 in
theorem wd_218 : Jvm.Cond.code ({ cls := "SearchGrids", name := "isLooker", desc := "(I)Z" } : Jvm.MethodName) prog_1_method_25_code (2 : Nat) (Option.some Jvm.ClassFile.FieldType.boolean) ∈ sg_tbl := gd (i := 257) rfl rfl
theorem wd_219 : Jvm.Cond.constantLong "SearchGrids" (103 : Nat) (23 : Int64) ∈ sg_tbl := gd (i := 258) (by decide +kernel) rfl
theorem wd_222 : Jvm.Cond.instanceMethod ({ cls := "SearchGrids$Looker", name := "takeAway", desc := "(II)V" } : Jvm.MethodName) ∈ sg_tbl := gd (i := 261) (by decide +kernel) rfl
set_option maxRecDepth 100000 in
theorem wd_223 : Jvm.Cond.code ({ cls := "SearchGrids$Looker", name := "takeAway", desc := "(II)V" } : Jvm.MethodName) prog_4_method_3_code (4 : Nat) (Option.none : Option Jvm.ClassFile.FieldType) ∈ sg_tbl := gd (i := 262) rfl rfl
theorem wd_224 : Jvm.Cond.methodLink "SearchGrids$Looker" (22 : Nat) ({ cls := "java/lang/Math", name := "max", desc := "(II)I" } : Jvm.MethodName) ∈ sg_tbl := gd (i := 263) (by decide +kernel) rfl
theorem wd_225 : Jvm.Cond.static ({ cls := "java/lang/Math", name := "max", desc := "(II)I" } : Jvm.MethodName) ∈ sg_tbl := gd (i := 264) (by decide +kernel) rfl
set_option maxRecDepth 100000 in
theorem wd_226 : Jvm.Cond.code ({ cls := "java/lang/Math", name := "max", desc := "(II)I" } : Jvm.MethodName) prog_7_method_65_code (2 : Nat) (Option.some Jvm.ClassFile.FieldType.int) ∈ sg_tbl := gd (i := 265) rfl rfl
theorem wd_227 : Jvm.Cond.methodLink "SearchGridsLaw" (43 : Nat) ({ cls := "SearchGrids", name := "share", desc := "(I)I" } : Jvm.MethodName) ∈ sg_tbl := gd (i := 266) (by decide +kernel) rfl
theorem wd_228 : Jvm.Cond.instanceMethod ({ cls := "SearchGrids", name := "share", desc := "(I)I" } : Jvm.MethodName) ∈ sg_tbl := gd (i := 267) (by decide +kernel) rfl
theorem wd_229 : Jvm.Cond.selects "SearchGrids" ({ cls := "SearchGrids", name := "share", desc := "(I)I" } : Jvm.MethodName) ({ cls := "SearchGrids", name := "share", desc := "(I)I" } : Jvm.MethodName) ∈ sg_tbl := gd (i := 268) (by decide +kernel) rfl
set_option maxRecDepth 100000 in
theorem wd_230 : Jvm.Cond.code ({ cls := "SearchGrids", name := "share", desc := "(I)I" } : Jvm.MethodName) prog_1_method_6_code (3 : Nat) (Option.some Jvm.ClassFile.FieldType.int) ∈ sg_tbl := gd (i := 269) rfl rfl
theorem wd_231 : Jvm.Cond.constantLong "SearchGrids" (109 : Nat) (100 : Int64) ∈ sg_tbl := gd (i := 270) (by decide +kernel) rfl
theorem wd_234 : Jvm.Cond.instanceMethod ({ cls := "SearchGrids$Cell", name := "reckonGains", desc := "()V" } : Jvm.MethodName) ∈ sg_tbl := gd (i := 273) (by decide +kernel) rfl
set_option maxRecDepth 100000 in
theorem wd_235 : Jvm.Cond.code ({ cls := "SearchGrids$Cell", name := "reckonGains", desc := "()V" } : Jvm.MethodName) prog_2_method_7_code (4 : Nat) (Option.none : Option Jvm.ClassFile.FieldType) ∈ sg_tbl := gd (i := 274) rfl rfl
theorem wd_236 : Jvm.Cond.methodLink "SearchGrids$Cell" (61 : Nat) ({ cls := "SearchGrids$Cell", name := "finds", desc := "([I)J" } : Jvm.MethodName) ∈ sg_tbl := gd (i := 275) (by decide +kernel) rfl
theorem wd_238 : Jvm.Cond.instanceMethod ({ cls := "SearchGrids$Cell", name := "finds", desc := "([I)J" } : Jvm.MethodName) ∈ sg_tbl := gd (i := 277) (by decide +kernel) rfl
set_option maxRecDepth 100000 in
theorem wd_239 : Jvm.Cond.code ({ cls := "SearchGrids$Cell", name := "finds", desc := "([I)J" } : Jvm.MethodName) prog_2_method_5_code (2 : Nat) (Option.some Jvm.ClassFile.FieldType.long) ∈ sg_tbl := gd (i := 278) rfl rfl
theorem wd_240 : Jvm.Cond.methodLink "SearchGrids$Cell" (51 : Nat) ({ cls := "SearchGrids$Cell", name := "weight", desc := "()J" } : Jvm.MethodName) ∈ sg_tbl := gd (i := 279) (by decide +kernel) rfl
theorem wd_242 : Jvm.Cond.instanceMethod ({ cls := "SearchGrids$Cell", name := "weight", desc := "()J" } : Jvm.MethodName) ∈ sg_tbl := gd (i := 281) (by decide +kernel) rfl
set_option maxRecDepth 100000 in
theorem wd_243 : Jvm.Cond.code ({ cls := "SearchGrids$Cell", name := "weight", desc := "()J" } : Jvm.MethodName) prog_2_method_2_code (4 : Nat) (Option.some Jvm.ClassFile.FieldType.long) ∈ sg_tbl := gd (i := 282) rfl rfl
theorem wd_244 : Jvm.Cond.constantLong "SearchGrids$Cell" (55 : Nat) (268738560000 : Int64) ∈ sg_tbl := gd (i := 283) (by decide +kernel) rfl
theorem wd_245 : Jvm.Cond.methodLink "SearchGrids$Cell" (57 : Nat) ({ cls := "SearchGrids$Cell", name := "missed", desc := "([I)J" } : Jvm.MethodName) ∈ sg_tbl := gd (i := 284) (by decide +kernel) rfl
theorem wd_247 : Jvm.Cond.instanceMethod ({ cls := "SearchGrids$Cell", name := "missed", desc := "([I)J" } : Jvm.MethodName) ∈ sg_tbl := gd (i := 286) (by decide +kernel) rfl
set_option maxRecDepth 100000 in
theorem wd_248 : Jvm.Cond.code ({ cls := "SearchGrids$Cell", name := "missed", desc := "([I)J" } : Jvm.MethodName) prog_2_method_4_code (5 : Nat) (Option.some Jvm.ClassFile.FieldType.long) ∈ sg_tbl := gd (i := 287) rfl rfl
theorem wd_249 : Jvm.Cond.methodLink "SearchGrids$Cell" (47 : Nat) ({ cls := "SearchGrids$Cell", name := "missedBy", desc := "(II)J" } : Jvm.MethodName) ∈ sg_tbl := gd (i := 288) (by decide +kernel) rfl
theorem wd_251 : Jvm.Cond.instanceMethod ({ cls := "SearchGrids$Cell", name := "missedBy", desc := "(II)J" } : Jvm.MethodName) ∈ sg_tbl := gd (i := 290) (by decide +kernel) rfl
set_option maxRecDepth 100000 in
theorem wd_252 : Jvm.Cond.code ({ cls := "SearchGrids$Cell", name := "missedBy", desc := "(II)J" } : Jvm.MethodName) prog_2_method_3_code (4 : Nat) (Option.some Jvm.ClassFile.FieldType.long) ∈ sg_tbl := gd (i := 291) rfl rfl
theorem wd_253 : Jvm.Cond.methodLink "SearchGrids$Cell" (41 : Nat) ({ cls := "java/lang/Math", name := "min", desc := "(II)I" } : Jvm.MethodName) ∈ sg_tbl := gd (i := 292) (by decide +kernel) rfl
theorem wd_254 : Jvm.Cond.static ({ cls := "java/lang/Math", name := "min", desc := "(II)I" } : Jvm.MethodName) ∈ sg_tbl := gd (i := 293) (by decide +kernel) rfl
set_option maxRecDepth 100000 in
theorem wd_255 : Jvm.Cond.code ({ cls := "java/lang/Math", name := "min", desc := "(II)I" } : Jvm.MethodName) prog_7_method_69_code (2 : Nat) (Option.some Jvm.ClassFile.FieldType.int) ∈ sg_tbl := gd (i := 294) rfl rfl
theorem wd_256 : Jvm.Cond.methodLink "SearchGrids" (117 : Nat) ({ cls := "SearchGrids", name := "giveBestHour", desc := "()Z" } : Jvm.MethodName) ∈ sg_tbl := gd (i := 295) (by decide +kernel) rfl
theorem wd_258 : Jvm.Cond.instanceMethod ({ cls := "SearchGrids", name := "giveBestHour", desc := "()Z" } : Jvm.MethodName) ∈ sg_tbl := gd (i := 297) (by decide +kernel) rfl
set_option maxRecDepth 100000 in
theorem wd_259 : Jvm.Cond.code ({ cls := "SearchGrids", name := "giveBestHour", desc := "()Z" } : Jvm.MethodName) prog_1_method_33_code (8 : Nat) (Option.some Jvm.ClassFile.FieldType.boolean) ∈ sg_tbl := gd (i := 298) rfl rfl
theorem wd_260 : Jvm.Cond.methodLink "SearchGridsLaw" (48 : Nat) ({ cls := "SearchGrids", name := "of", desc := "(II)I" } : Jvm.MethodName) ∈ sg_tbl := gd (i := 299) (by decide +kernel) rfl
theorem wd_261 : Jvm.Cond.instanceMethod ({ cls := "SearchGrids", name := "of", desc := "(II)I" } : Jvm.MethodName) ∈ sg_tbl := gd (i := 300) (by decide +kernel) rfl
theorem wd_262 : Jvm.Cond.selects "SearchGrids" ({ cls := "SearchGrids", name := "of", desc := "(II)I" } : Jvm.MethodName) ({ cls := "SearchGrids", name := "of", desc := "(II)I" } : Jvm.MethodName) ∈ sg_tbl := gd (i := 301) (by decide +kernel) rfl
set_option maxRecDepth 100000 in
theorem wd_263 : Jvm.Cond.code ({ cls := "SearchGrids", name := "of", desc := "(II)I" } : Jvm.MethodName) prog_1_method_7_code (4 : Nat) (Option.some Jvm.ClassFile.FieldType.int) ∈ sg_tbl := gd (i := 302) rfl rfl
theorem wd_264 : Jvm.Cond.methodLink "SearchGridsLaw" (53 : Nat) ({ cls := "SearchGrids", name := "tried", desc := "()Z" } : Jvm.MethodName) ∈ sg_tbl := gd (i := 303) (by decide +kernel) rfl
theorem wd_265 : Jvm.Cond.instanceMethod ({ cls := "SearchGrids", name := "tried", desc := "()Z" } : Jvm.MethodName) ∈ sg_tbl := gd (i := 304) (by decide +kernel) rfl
theorem wd_266 : Jvm.Cond.selects "SearchGrids" ({ cls := "SearchGrids", name := "tried", desc := "()Z" } : Jvm.MethodName) ({ cls := "SearchGrids", name := "tried", desc := "()Z" } : Jvm.MethodName) ∈ sg_tbl := gd (i := 305) (by decide +kernel) rfl
set_option maxRecDepth 100000 in
theorem wd_267 : Jvm.Cond.code ({ cls := "SearchGrids", name := "tried", desc := "()Z" } : Jvm.MethodName) prog_1_method_8_code (2 : Nat) (Option.some Jvm.ClassFile.FieldType.boolean) ∈ sg_tbl := gd (i := 306) rfl rfl
theorem wd_268 : Jvm.Cond.methodLink "SearchGrids" (124 : Nat) ({ cls := "SearchGrids", name := "plannedHours", desc := "()I" } : Jvm.MethodName) ∈ sg_tbl := gd (i := 307) (by decide +kernel) rfl
theorem wd_270 : Jvm.Cond.instanceMethod ({ cls := "SearchGrids", name := "plannedHours", desc := "()I" } : Jvm.MethodName) ∈ sg_tbl := gd (i := 309) (by decide +kernel) rfl
set_option maxRecDepth 100000 in
theorem wd_271 : Jvm.Cond.code ({ cls := "SearchGrids", name := "plannedHours", desc := "()I" } : Jvm.MethodName) prog_1_method_34_code (3 : Nat) (Option.some Jvm.ClassFile.FieldType.int) ∈ sg_tbl := gd (i := 310) rfl rfl
theorem wd_272 : Jvm.Cond.methodLink "SearchGrids" (128 : Nat) ({ cls := "SearchGrids", name := "plannedFinds", desc := "()J" } : Jvm.MethodName) ∈ sg_tbl := gd (i := 311) (by decide +kernel) rfl
theorem wd_274 : Jvm.Cond.instanceMethod ({ cls := "SearchGrids", name := "plannedFinds", desc := "()J" } : Jvm.MethodName) ∈ sg_tbl := gd (i := 313) (by decide +kernel) rfl
set_option maxRecDepth 100000 in
theorem wd_275 : Jvm.Cond.code ({ cls := "SearchGrids", name := "plannedFinds", desc := "()J" } : Jvm.MethodName) prog_1_method_35_code (4 : Nat) (Option.some Jvm.ClassFile.FieldType.long) ∈ sg_tbl := gd (i := 314) rfl rfl
theorem wd_277 : Jvm.Cond.methodLink "SearchGrids" (131 : Nat) ({ cls := "SearchGrids", name := "isOutdone", desc := "(IIIJJ)Z" } : Jvm.MethodName) ∈ sg_tbl := gd (i := 316) (by decide +kernel) rfl
theorem wd_279 : Jvm.Cond.instanceMethod ({ cls := "SearchGrids", name := "isOutdone", desc := "(IIIJJ)Z" } : Jvm.MethodName) ∈ sg_tbl := gd (i := 318) (by decide +kernel) rfl
set_option maxRecDepth 100000 in
theorem wd_280 : Jvm.Cond.code ({ cls := "SearchGrids", name := "isOutdone", desc := "(IIIJJ)Z" } : Jvm.MethodName) prog_1_method_36_code (13 : Nat) (Option.some Jvm.ClassFile.FieldType.boolean) ∈ sg_tbl := gd (i := 319) rfl rfl
theorem wd_281 : Jvm.Cond.methodLink "SearchGrids" (223 : Nat) ({ cls := "java/lang/Math", name := "min", desc := "(II)I" } : Jvm.MethodName) ∈ sg_tbl := gd (i := 320) (by decide +kernel) rfl
theorem wd_282 : Jvm.Cond.methodLink "SearchGridsLaw" (58 : Nat) ({ cls := "SearchGrids", name := "look", desc := "(IIJJ)I" } : Jvm.MethodName) ∈ sg_tbl := gd (i := 321) (by decide +kernel) rfl
theorem wd_283 : Jvm.Cond.instanceMethod ({ cls := "SearchGrids", name := "look", desc := "(IIJJ)I" } : Jvm.MethodName) ∈ sg_tbl := gd (i := 322) (by decide +kernel) rfl
theorem wd_284 : Jvm.Cond.selects "SearchGrids" ({ cls := "SearchGrids", name := "look", desc := "(IIJJ)I" } : Jvm.MethodName) ({ cls := "SearchGrids", name := "look", desc := "(IIJJ)I" } : Jvm.MethodName) ∈ sg_tbl := gd (i := 323) (by decide +kernel) rfl
set_option maxRecDepth 100000 in
theorem wd_285 : Jvm.Cond.code ({ cls := "SearchGrids", name := "look", desc := "(IIJJ)I" } : Jvm.MethodName) prog_1_method_9_code (9 : Nat) (Option.some Jvm.ClassFile.FieldType.int) ∈ sg_tbl := gd (i := 324) rfl rfl
theorem wd_288 : Jvm.Cond.instanceMethod ({ cls := "SearchGrids$LookLog", name := "add", desc := "(IIIJ)I" } : Jvm.MethodName) ∈ sg_tbl := gd (i := 327) (by decide +kernel) rfl
set_option maxRecDepth 100000 in
theorem wd_289 : Jvm.Cond.code ({ cls := "SearchGrids$LookLog", name := "add", desc := "(IIIJ)I" } : Jvm.MethodName) prog_3_method_2_code (8 : Nat) (Option.some Jvm.ClassFile.FieldType.int) ∈ sg_tbl := gd (i := 328) rfl rfl
theorem wd_290 : Jvm.Cond.methodLink "SearchGridsLaw" (63 : Nat) ({ cls := "SearchGrids", name := "after", desc := "(II)J" } : Jvm.MethodName) ∈ sg_tbl := gd (i := 329) (by decide +kernel) rfl
theorem wd_291 : Jvm.Cond.instanceMethod ({ cls := "SearchGrids", name := "after", desc := "(II)J" } : Jvm.MethodName) ∈ sg_tbl := gd (i := 330) (by decide +kernel) rfl
theorem wd_292 : Jvm.Cond.selects "SearchGrids" ({ cls := "SearchGrids", name := "after", desc := "(II)J" } : Jvm.MethodName) ({ cls := "SearchGrids", name := "after", desc := "(II)J" } : Jvm.MethodName) ∈ sg_tbl := gd (i := 331) (by decide +kernel) rfl
set_option maxRecDepth 100000 in
theorem wd_293 : Jvm.Cond.code ({ cls := "SearchGrids", name := "after", desc := "(II)J" } : Jvm.MethodName) prog_1_method_10_code (4 : Nat) (Option.some Jvm.ClassFile.FieldType.long) ∈ sg_tbl := gd (i := 332) rfl rfl
theorem wd_296 : Jvm.Cond.instanceMethod ({ cls := "SearchGrids$Cell", name := "remains", desc := "()J" } : Jvm.MethodName) ∈ sg_tbl := gd (i := 335) (by decide +kernel) rfl
set_option maxRecDepth 100000 in
theorem wd_297 : Jvm.Cond.code ({ cls := "SearchGrids$Cell", name := "remains", desc := "()J" } : Jvm.MethodName) prog_2_method_6_code (1 : Nat) (Option.some Jvm.ClassFile.FieldType.long) ∈ sg_tbl := gd (i := 336) rfl rfl
theorem wd_298 : Jvm.Cond.methodLink "SearchGrids" (145 : Nat) ({ cls := "SearchGrids", name := "allRemains", desc := "()J" } : Jvm.MethodName) ∈ sg_tbl := gd (i := 337) (by decide +kernel) rfl
theorem wd_300 : Jvm.Cond.instanceMethod ({ cls := "SearchGrids", name := "allRemains", desc := "()J" } : Jvm.MethodName) ∈ sg_tbl := gd (i := 339) (by decide +kernel) rfl
set_option maxRecDepth 100000 in
theorem wd_301 : Jvm.Cond.code ({ cls := "SearchGrids", name := "allRemains", desc := "()J" } : Jvm.MethodName) prog_1_method_31_code (4 : Nat) (Option.some Jvm.ClassFile.FieldType.long) ∈ sg_tbl := gd (i := 340) rfl rfl
theorem wd_302 : Jvm.Cond.methodLink "SearchGridsLaw" (67 : Nat) ({ cls := "SearchGrids", name := "sums", desc := "()Z" } : Jvm.MethodName) ∈ sg_tbl := gd (i := 341) (by decide +kernel) rfl
theorem wd_303 : Jvm.Cond.instanceMethod ({ cls := "SearchGrids", name := "sums", desc := "()Z" } : Jvm.MethodName) ∈ sg_tbl := gd (i := 342) (by decide +kernel) rfl
theorem wd_304 : Jvm.Cond.selects "SearchGrids" ({ cls := "SearchGrids", name := "sums", desc := "()Z" } : Jvm.MethodName) ({ cls := "SearchGrids", name := "sums", desc := "()Z" } : Jvm.MethodName) ∈ sg_tbl := gd (i := 343) (by decide +kernel) rfl
set_option maxRecDepth 100000 in
theorem wd_305 : Jvm.Cond.code ({ cls := "SearchGrids", name := "sums", desc := "()Z" } : Jvm.MethodName) prog_1_method_11_code (1 : Nat) (Option.some Jvm.ClassFile.FieldType.boolean) ∈ sg_tbl := gd (i := 344) rfl rfl
theorem wd_306 : Jvm.Cond.methodLink "SearchGridsLaw" (71 : Nat) ({ cls := "SearchGrids", name := "found", desc := "(I)J" } : Jvm.MethodName) ∈ sg_tbl := gd (i := 345) (by decide +kernel) rfl
theorem wd_307 : Jvm.Cond.instanceMethod ({ cls := "SearchGrids", name := "found", desc := "(I)J" } : Jvm.MethodName) ∈ sg_tbl := gd (i := 346) (by decide +kernel) rfl
theorem wd_308 : Jvm.Cond.selects "SearchGrids" ({ cls := "SearchGrids", name := "found", desc := "(I)J" } : Jvm.MethodName) ({ cls := "SearchGrids", name := "found", desc := "(I)J" } : Jvm.MethodName) ∈ sg_tbl := gd (i := 347) (by decide +kernel) rfl
set_option maxRecDepth 100000 in
theorem wd_309 : Jvm.Cond.code ({ cls := "SearchGrids", name := "found", desc := "(I)J" } : Jvm.MethodName) prog_1_method_12_code (5 : Nat) (Option.some Jvm.ClassFile.FieldType.long) ∈ sg_tbl := gd (i := 348) rfl rfl
theorem wd_311 : Jvm.Cond.constantLong "SearchGrids" (151 : Nat) (268738560000 : Int64) ∈ sg_tbl := gd (i := 350) (by decide +kernel) rfl
theorem wd_312 : Jvm.Cond.methodLink "SearchGridsLaw" (76 : Nat) ({ cls := "SearchGrids", name := "line", desc := "(III)I" } : Jvm.MethodName) ∈ sg_tbl := gd (i := 351) (by decide +kernel) rfl
theorem wd_313 : Jvm.Cond.instanceMethod ({ cls := "SearchGrids", name := "line", desc := "(III)I" } : Jvm.MethodName) ∈ sg_tbl := gd (i := 352) (by decide +kernel) rfl
theorem wd_314 : Jvm.Cond.selects "SearchGrids" ({ cls := "SearchGrids", name := "line", desc := "(III)I" } : Jvm.MethodName) ({ cls := "SearchGrids", name := "line", desc := "(III)I" } : Jvm.MethodName) ∈ sg_tbl := gd (i := 353) (by decide +kernel) rfl
set_option maxRecDepth 100000 in
theorem wd_315 : Jvm.Cond.code ({ cls := "SearchGrids", name := "line", desc := "(III)I" } : Jvm.MethodName) prog_1_method_13_code (6 : Nat) (Option.some Jvm.ClassFile.FieldType.int) ∈ sg_tbl := gd (i := 354) rfl rfl
theorem wd_316 : Jvm.Cond.methodLink "SearchGrids" (156 : Nat) ({ cls := "SearchGrids", name := "rowWidth", desc := "(I)I" } : Jvm.MethodName) ∈ sg_tbl := gd (i := 355) (by decide +kernel) rfl
theorem wd_317 : Jvm.Cond.static ({ cls := "SearchGrids", name := "rowWidth", desc := "(I)I" } : Jvm.MethodName) ∈ sg_tbl := gd (i := 356) (by decide +kernel) rfl
set_option maxRecDepth 100000 in
theorem wd_318 : Jvm.Cond.code ({ cls := "SearchGrids", name := "rowWidth", desc := "(I)I" } : Jvm.MethodName) prog_1_method_39_code (3 : Nat) (Option.some Jvm.ClassFile.FieldType.int) ∈ sg_tbl := gd (i := 357) rfl rfl
theorem wd_319 : Jvm.Cond.methodLink "SearchGrids" (159 : Nat) ({ cls := "SearchGrids", name := "placeInRow", desc := "(II)I" } : Jvm.MethodName) ∈ sg_tbl := gd (i := 358) (by decide +kernel) rfl
theorem wd_320 : Jvm.Cond.static ({ cls := "SearchGrids", name := "placeInRow", desc := "(II)I" } : Jvm.MethodName) ∈ sg_tbl := gd (i := 359) (by decide +kernel) rfl
set_option maxRecDepth 100000 in
theorem wd_321 : Jvm.Cond.code ({ cls := "SearchGrids", name := "placeInRow", desc := "(II)I" } : Jvm.MethodName) prog_1_method_41_code (3 : Nat) (Option.some Jvm.ClassFile.FieldType.int) ∈ sg_tbl := gd (i := 360) rfl rfl
theorem wd_322 : Jvm.Cond.methodLink "SearchGrids" (163 : Nat) ({ cls := "SearchGrids", name := "rowOf", desc := "(II)I" } : Jvm.MethodName) ∈ sg_tbl := gd (i := 361) (by decide +kernel) rfl
theorem wd_323 : Jvm.Cond.static ({ cls := "SearchGrids", name := "rowOf", desc := "(II)I" } : Jvm.MethodName) ∈ sg_tbl := gd (i := 362) (by decide +kernel) rfl
set_option maxRecDepth 100000 in
theorem wd_324 : Jvm.Cond.code ({ cls := "SearchGrids", name := "rowOf", desc := "(II)I" } : Jvm.MethodName) prog_1_method_40_code (2 : Nat) (Option.some Jvm.ClassFile.FieldType.int) ∈ sg_tbl := gd (i := 363) rfl rfl
theorem wd_325 : Jvm.Cond.methodLink "SearchGridsLaw" (81 : Nat) ({ cls := "SearchGrids", name := "covers", desc := "(I)Z" } : Jvm.MethodName) ∈ sg_tbl := gd (i := 364) (by decide +kernel) rfl
theorem wd_326 : Jvm.Cond.instanceMethod ({ cls := "SearchGrids", name := "covers", desc := "(I)Z" } : Jvm.MethodName) ∈ sg_tbl := gd (i := 365) (by decide +kernel) rfl
theorem wd_327 : Jvm.Cond.selects "SearchGrids" ({ cls := "SearchGrids", name := "covers", desc := "(I)Z" } : Jvm.MethodName) ({ cls := "SearchGrids", name := "covers", desc := "(I)Z" } : Jvm.MethodName) ∈ sg_tbl := gd (i := 366) (by decide +kernel) rfl
set_option maxRecDepth 100000 in
theorem wd_328 : Jvm.Cond.code ({ cls := "SearchGrids", name := "covers", desc := "(I)Z" } : Jvm.MethodName) prog_1_method_14_code (7 : Nat) (Option.some Jvm.ClassFile.FieldType.boolean) ∈ sg_tbl := gd (i := 367) rfl rfl
theorem wd_329 : Jvm.Cond.methodLink "SearchGridsLaw" (86 : Nat) ({ cls := "SearchGrids", name := "rest", desc := "(III)Z" } : Jvm.MethodName) ∈ sg_tbl := gd (i := 368) (by decide +kernel) rfl
theorem wd_330 : Jvm.Cond.instanceMethod ({ cls := "SearchGrids", name := "rest", desc := "(III)Z" } : Jvm.MethodName) ∈ sg_tbl := gd (i := 369) (by decide +kernel) rfl
theorem wd_331 : Jvm.Cond.selects "SearchGrids" ({ cls := "SearchGrids", name := "rest", desc := "(III)Z" } : Jvm.MethodName) ({ cls := "SearchGrids", name := "rest", desc := "(III)Z" } : Jvm.MethodName) ∈ sg_tbl := gd (i := 370) (by decide +kernel) rfl
set_option maxRecDepth 100000 in
theorem wd_332 : Jvm.Cond.code ({ cls := "SearchGrids", name := "rest", desc := "(III)Z" } : Jvm.MethodName) prog_1_method_15_code (4 : Nat) (Option.some Jvm.ClassFile.FieldType.boolean) ∈ sg_tbl := gd (i := 371) rfl rfl
theorem wd_333 : Jvm.Cond.methodLink "SearchGridsLaw" (91 : Nat) ({ cls := "SearchGrids", name := "thing", desc := "()I" } : Jvm.MethodName) ∈ sg_tbl := gd (i := 372) (by decide +kernel) rfl
theorem wd_334 : Jvm.Cond.instanceMethod ({ cls := "SearchGrids", name := "thing", desc := "()I" } : Jvm.MethodName) ∈ sg_tbl := gd (i := 373) (by decide +kernel) rfl
theorem wd_335 : Jvm.Cond.selects "SearchGrids" ({ cls := "SearchGrids", name := "thing", desc := "()I" } : Jvm.MethodName) ({ cls := "SearchGrids", name := "thing", desc := "()I" } : Jvm.MethodName) ∈ sg_tbl := gd (i := 374) (by decide +kernel) rfl
set_option maxRecDepth 100000 in
theorem wd_336 : Jvm.Cond.code ({ cls := "SearchGrids", name := "thing", desc := "()I" } : Jvm.MethodName) prog_1_method_16_code (2 : Nat) (Option.some Jvm.ClassFile.FieldType.int) ∈ sg_tbl := gd (i := 375) rfl rfl
theorem wd_337 : Jvm.Cond.methodLink "SearchGridsLaw" (96 : Nat) ({ cls := "SearchGrids", name := "countsOf", desc := "(IIJ)Z" } : Jvm.MethodName) ∈ sg_tbl := gd (i := 376) (by decide +kernel) rfl
theorem wd_338 : Jvm.Cond.methodLink "SearchGridsLaw" (101 : Nat) ({ cls := "SearchGrids", name := "stop", desc := "(JJ)Z" } : Jvm.MethodName) ∈ sg_tbl := gd (i := 377) (by decide +kernel) rfl
theorem wd_339 : Jvm.Cond.instanceMethod ({ cls := "SearchGrids", name := "stop", desc := "(JJ)Z" } : Jvm.MethodName) ∈ sg_tbl := gd (i := 378) (by decide +kernel) rfl
theorem wd_340 : Jvm.Cond.selects "SearchGrids" ({ cls := "SearchGrids", name := "stop", desc := "(JJ)Z" } : Jvm.MethodName) ({ cls := "SearchGrids", name := "stop", desc := "(JJ)Z" } : Jvm.MethodName) ∈ sg_tbl := gd (i := 379) (by decide +kernel) rfl
set_option maxRecDepth 100000 in
theorem wd_341 : Jvm.Cond.code ({ cls := "SearchGrids", name := "stop", desc := "(JJ)Z" } : Jvm.MethodName) prog_1_method_18_code (5 : Nat) (Option.some Jvm.ClassFile.FieldType.boolean) ∈ sg_tbl := gd (i := 380) rfl rfl
theorem wd_342 : Jvm.Cond.methodLink "SearchGridsLaw" (106 : Nat) ({ cls := "SearchGrids", name := "stops", desc := "()I" } : Jvm.MethodName) ∈ sg_tbl := gd (i := 381) (by decide +kernel) rfl
theorem wd_343 : Jvm.Cond.instanceMethod ({ cls := "SearchGrids", name := "stops", desc := "()I" } : Jvm.MethodName) ∈ sg_tbl := gd (i := 382) (by decide +kernel) rfl
theorem wd_344 : Jvm.Cond.selects "SearchGrids" ({ cls := "SearchGrids", name := "stops", desc := "()I" } : Jvm.MethodName) ({ cls := "SearchGrids", name := "stops", desc := "()I" } : Jvm.MethodName) ∈ sg_tbl := gd (i := 383) (by decide +kernel) rfl
set_option maxRecDepth 100000 in
theorem wd_345 : Jvm.Cond.code ({ cls := "SearchGrids", name := "stops", desc := "()I" } : Jvm.MethodName) prog_1_method_19_code (3 : Nat) (Option.some Jvm.ClassFile.FieldType.int) ∈ sg_tbl := gd (i := 384) rfl rfl
theorem wd_346 : Jvm.Cond.methodLink "SearchGridsLaw" (110 : Nat) ({ cls := "SearchGrids", name := "order", desc := "(I)I" } : Jvm.MethodName) ∈ sg_tbl := gd (i := 385) (by decide +kernel) rfl
theorem wd_347 : Jvm.Cond.instanceMethod ({ cls := "SearchGrids", name := "order", desc := "(I)I" } : Jvm.MethodName) ∈ sg_tbl := gd (i := 386) (by decide +kernel) rfl
theorem wd_348 : Jvm.Cond.selects "SearchGrids" ({ cls := "SearchGrids", name := "order", desc := "(I)I" } : Jvm.MethodName) ({ cls := "SearchGrids", name := "order", desc := "(I)I" } : Jvm.MethodName) ∈ sg_tbl := gd (i := 387) (by decide +kernel) rfl
set_option maxRecDepth 100000 in
theorem wd_349 : Jvm.Cond.code ({ cls := "SearchGrids", name := "order", desc := "(I)I" } : Jvm.MethodName) prog_1_method_20_code (3 : Nat) (Option.some Jvm.ClassFile.FieldType.int) ∈ sg_tbl := gd (i := 388) rfl rfl
theorem wd_350 : Jvm.Cond.methodLink "SearchGrids" (176 : Nat) ({ cls := "SearchGrids", name := "standingOf", desc := "(LSearchGrids$Cell;)J" } : Jvm.MethodName) ∈ sg_tbl := gd (i := 389) (by decide +kernel) rfl
theorem wd_352 : Jvm.Cond.instanceMethod ({ cls := "SearchGrids", name := "standingOf", desc := "(LSearchGrids$Cell;)J" } : Jvm.MethodName) ∈ sg_tbl := gd (i := 391) (by decide +kernel) rfl
set_option maxRecDepth 100000 in
theorem wd_353 : Jvm.Cond.code ({ cls := "SearchGrids", name := "standingOf", desc := "(LSearchGrids$Cell;)J" } : Jvm.MethodName) prog_1_method_37_code (2 : Nat) (Option.some Jvm.ClassFile.FieldType.long) ∈ sg_tbl := gd (i := 392) rfl rfl
theorem wd_354 : Jvm.Cond.methodLink "SearchGrids" (183 : Nat) ({ cls := "SearchGrids", name := "countBefore", desc := "(I)I" } : Jvm.MethodName) ∈ sg_tbl := gd (i := 393) (by decide +kernel) rfl
theorem wd_356 : Jvm.Cond.instanceMethod ({ cls := "SearchGrids", name := "countBefore", desc := "(I)I" } : Jvm.MethodName) ∈ sg_tbl := gd (i := 395) (by decide +kernel) rfl
set_option maxRecDepth 100000 in
theorem wd_357 : Jvm.Cond.code ({ cls := "SearchGrids", name := "countBefore", desc := "(I)I" } : Jvm.MethodName) prog_1_method_38_code (6 : Nat) (Option.some Jvm.ClassFile.FieldType.int) ∈ sg_tbl := gd (i := 396) rfl rfl
theorem wd_358 : Jvm.Cond.methodLink "SearchGridsLaw" (114 : Nat) ({ cls := "SearchGrids", name := "seen", desc := "(II)Z" } : Jvm.MethodName) ∈ sg_tbl := gd (i := 397) (by decide +kernel) rfl
theorem wd_359 : Jvm.Cond.instanceMethod ({ cls := "SearchGrids", name := "seen", desc := "(II)Z" } : Jvm.MethodName) ∈ sg_tbl := gd (i := 398) (by decide +kernel) rfl
theorem wd_360 : Jvm.Cond.selects "SearchGrids" ({ cls := "SearchGrids", name := "seen", desc := "(II)Z" } : Jvm.MethodName) ({ cls := "SearchGrids", name := "seen", desc := "(II)Z" } : Jvm.MethodName) ∈ sg_tbl := gd (i := 399) (by decide +kernel) rfl
set_option maxRecDepth 100000 in
theorem wd_361 : Jvm.Cond.code ({ cls := "SearchGrids", name := "seen", desc := "(II)Z" } : Jvm.MethodName) prog_1_method_21_code (4 : Nat) (Option.some Jvm.ClassFile.FieldType.boolean) ∈ sg_tbl := gd (i := 400) rfl rfl
theorem wd_362 : Jvm.Cond.methodLink "SearchGridsLaw" (118 : Nat) ({ cls := "SearchGrids", name := "log", desc := "(II)I" } : Jvm.MethodName) ∈ sg_tbl := gd (i := 401) (by decide +kernel) rfl
theorem wd_363 : Jvm.Cond.instanceMethod ({ cls := "SearchGrids", name := "log", desc := "(II)I" } : Jvm.MethodName) ∈ sg_tbl := gd (i := 402) (by decide +kernel) rfl
theorem wd_364 : Jvm.Cond.selects "SearchGrids" ({ cls := "SearchGrids", name := "log", desc := "(II)I" } : Jvm.MethodName) ({ cls := "SearchGrids", name := "log", desc := "(II)I" } : Jvm.MethodName) ∈ sg_tbl := gd (i := 403) (by decide +kernel) rfl
set_option maxRecDepth 100000 in
theorem wd_365 : Jvm.Cond.code ({ cls := "SearchGrids", name := "log", desc := "(II)I" } : Jvm.MethodName) prog_1_method_22_code (4 : Nat) (Option.some Jvm.ClassFile.FieldType.int) ∈ sg_tbl := gd (i := 404) rfl rfl
theorem wd_366 : Jvm.Cond.methodLink "SearchGridsLaw" (122 : Nat) ({ cls := "SearchGrids", name := "area", desc := "(IJ)Z" } : Jvm.MethodName) ∈ sg_tbl := gd (i := 405) (by decide +kernel) rfl
theorem wd_367 : Jvm.Cond.instanceMethod ({ cls := "SearchGrids", name := "area", desc := "(IJ)Z" } : Jvm.MethodName) ∈ sg_tbl := gd (i := 406) (by decide +kernel) rfl
theorem wd_368 : Jvm.Cond.selects "SearchGrids" ({ cls := "SearchGrids", name := "area", desc := "(IJ)Z" } : Jvm.MethodName) ({ cls := "SearchGrids", name := "area", desc := "(IJ)Z" } : Jvm.MethodName) ∈ sg_tbl := gd (i := 407) (by decide +kernel) rfl
set_option maxRecDepth 100000 in
theorem wd_369 : Jvm.Cond.code ({ cls := "SearchGrids", name := "area", desc := "(IJ)Z" } : Jvm.MethodName) prog_1_method_23_code (6 : Nat) (Option.some Jvm.ClassFile.FieldType.boolean) ∈ sg_tbl := gd (i := 408) rfl rfl
theorem wd_370 : Jvm.Cond.constantLong "SearchGrids" (199 : Nat) (720 : Int64) ∈ sg_tbl := gd (i := 409) (by decide +kernel) rfl
theorem wd_371 : Jvm.Cond.methodLink "SearchGridsLaw" (9 : Nat) ({ cls := "SearchGridsLaw", name := "cell", desc := "([II)I" } : Jvm.MethodName) ∈ sg_tbl := gd (i := 410) (by decide +kernel) rfl
theorem wd_372 : Jvm.Cond.static ({ cls := "SearchGridsLaw", name := "cell", desc := "([II)I" } : Jvm.MethodName) ∈ sg_tbl := gd (i := 411) (by decide +kernel) rfl
set_option maxRecDepth 100000 in
theorem wd_373 : Jvm.Cond.code ({ cls := "SearchGridsLaw", name := "cell", desc := "([II)I" } : Jvm.MethodName) method_2_code (2 : Nat) (Option.some Jvm.ClassFile.FieldType.int) ∈ sg_tbl := gd (i := 412) rfl rfl
theorem wd_374 : Jvm.Cond.classLink "SearchGridsLaw" (18 : Nat) "SearchGridsModel" ∈ sg_tbl := gd (i := 413) (by decide +kernel) rfl
theorem wd_375 : Jvm.Cond.instantiable "SearchGridsModel" (21 : Nat) ∈ sg_tbl := gd (i := 414) (by decide +kernel) rfl
theorem wd_376 : Jvm.Cond.methodLink "SearchGridsLaw" (20 : Nat) ({ cls := "SearchGridsModel", name := "<init>", desc := "(I)V" } : Jvm.MethodName) ∈ sg_tbl := gd (i := 415) (by decide +kernel) rfl
theorem wd_377 : Jvm.Cond.instanceMethod ({ cls := "SearchGridsModel", name := "<init>", desc := "(I)V" } : Jvm.MethodName) ∈ sg_tbl := gd (i := 416) (by decide +kernel) rfl
set_option maxRecDepth 100000 in
theorem wd_378 : Jvm.Cond.code ({ cls := "SearchGridsModel", name := "<init>", desc := "(I)V" } : Jvm.MethodName) prog_6_method_1_code (2 : Nat) (Option.none : Option Jvm.ClassFile.FieldType) ∈ sg_tbl := gd (i := 417) rfl rfl
theorem wd_379 : Jvm.Cond.methodLink "SearchGridsModel" (1 : Nat) ({ cls := "java/lang/Object", name := "<init>", desc := "()V" } : Jvm.MethodName) ∈ sg_tbl := gd (i := 418) (by decide +kernel) rfl
theorem wd_380 : Jvm.Cond.constant "SearchGridsModel" (58 : Nat) (65536 : Int32) ∈ sg_tbl := gd (i := 419) (by decide +kernel) rfl
theorem wd_381 : Jvm.Cond.fieldLink "SearchGridsModel" (59 : Nat) "SearchGridsModel" "cells" "I" ∈ sg_tbl := gd (i := 420) (by decide +kernel) rfl
theorem wd_382 : Jvm.Cond.fieldLink "SearchGridsModel" (65 : Nat) "SearchGridsModel" "told" "I" ∈ sg_tbl := gd (i := 421) (by decide +kernel) rfl
theorem wd_383 : Jvm.Cond.fieldLink "SearchGridsModel" (7 : Nat) "SearchGridsModel" "cell" "[I" ∈ sg_tbl := gd (i := 422) (by decide +kernel) rfl
theorem wd_384 : Jvm.Cond.fieldLink "SearchGridsModel" (13 : Nat) "SearchGridsModel" "areas" "[I" ∈ sg_tbl := gd (i := 423) (by decide +kernel) rfl
theorem wd_385 : Jvm.Cond.fieldLink "SearchGridsModel" (16 : Nat) "SearchGridsModel" "count" "[I" ∈ sg_tbl := gd (i := 424) (by decide +kernel) rfl
theorem wd_386 : Jvm.Cond.fieldLink "SearchGridsModel" (19 : Nat) "SearchGridsModel" "things" "I" ∈ sg_tbl := gd (i := 425) (by decide +kernel) rfl
theorem wd_387 : Jvm.Cond.fieldLink "SearchGridsModel" (62 : Nat) "SearchGridsModel" "lookers" "I" ∈ sg_tbl := gd (i := 426) (by decide +kernel) rfl
theorem wd_388 : Jvm.Cond.fieldLink "SearchGridsModel" (23 : Nat) "SearchGridsModel" "rate" "[I" ∈ sg_tbl := gd (i := 427) (by decide +kernel) rfl
theorem wd_389 : Jvm.Cond.fieldLink "SearchGridsModel" (26 : Nat) "SearchGridsModel" "hours" "[I" ∈ sg_tbl := gd (i := 428) (by decide +kernel) rfl
theorem wd_390 : Jvm.Cond.fieldLink "SearchGridsModel" (29 : Nat) "SearchGridsModel" "barred" "[Z" ∈ sg_tbl := gd (i := 429) (by decide +kernel) rfl
theorem wd_391 : Jvm.Cond.fieldLink "SearchGridsModel" (33 : Nat) "SearchGridsModel" "plan" "[I" ∈ sg_tbl := gd (i := 430) (by decide +kernel) rfl
theorem wd_392 : Jvm.Cond.fieldLink "SearchGridsModel" (36 : Nat) "SearchGridsModel" "trial" "[I" ∈ sg_tbl := gd (i := 431) (by decide +kernel) rfl
theorem wd_393 : Jvm.Cond.fieldLink "SearchGridsModel" (39 : Nat) "SearchGridsModel" "looked" "[I" ∈ sg_tbl := gd (i := 432) (by decide +kernel) rfl
theorem wd_394 : Jvm.Cond.fieldLink "SearchGridsModel" (92 : Nat) "SearchGridsModel" "looks" "I" ∈ sg_tbl := gd (i := 433) (by decide +kernel) rfl
theorem wd_395 : Jvm.Cond.fieldLink "SearchGridsModel" (42 : Nat) "SearchGridsModel" "lookLooker" "[I" ∈ sg_tbl := gd (i := 434) (by decide +kernel) rfl
theorem wd_396 : Jvm.Cond.fieldLink "SearchGridsModel" (45 : Nat) "SearchGridsModel" "lookCell" "[I" ∈ sg_tbl := gd (i := 435) (by decide +kernel) rfl
theorem wd_397 : Jvm.Cond.fieldLink "SearchGridsModel" (48 : Nat) "SearchGridsModel" "lookHours" "[I" ∈ sg_tbl := gd (i := 436) (by decide +kernel) rfl
theorem wd_398 : Jvm.Cond.fieldLink "SearchGridsModel" (51 : Nat) "SearchGridsModel" "lookTold" "[J" ∈ sg_tbl := gd (i := 437) (by decide +kernel) rfl
theorem wd_399 : Jvm.Cond.fieldLink "SearchGridsModel" (55 : Nat) "SearchGridsModel" "seenAt" "I" ∈ sg_tbl := gd (i := 438) (by decide +kernel) rfl
theorem wd_400 : Jvm.Cond.fieldLink "SearchGridsModel" (106 : Nat) "SearchGridsModel" "above" "J" ∈ sg_tbl := gd (i := 439) (by decide +kernel) rfl
theorem wd_401 : Jvm.Cond.fieldLink "SearchGridsModel" (110 : Nat) "SearchGridsModel" "below" "J" ∈ sg_tbl := gd (i := 440) (by decide +kernel) rfl
theorem wd_402 : Jvm.Cond.laysFinal "SearchGridsModel" "SearchGridsModel" "cells" "I" ∈ sg_tbl := gd (i := 441) (by decide +kernel) rfl
theorem wd_404 : Jvm.Cond.lays "SearchGridsModel" "SearchGridsModel" "told" "I" ∈ sg_tbl := gd (i := 443) (by decide +kernel) rfl
theorem wd_406 : Jvm.Cond.laysFinal "SearchGridsModel" "SearchGridsModel" "cell" "[I" ∈ sg_tbl := gd (i := 445) (by decide +kernel) rfl
theorem wd_408 : Jvm.Cond.laysFinal "SearchGridsModel" "SearchGridsModel" "areas" "[I" ∈ sg_tbl := gd (i := 447) (by decide +kernel) rfl
theorem wd_410 : Jvm.Cond.laysFinal "SearchGridsModel" "SearchGridsModel" "count" "[I" ∈ sg_tbl := gd (i := 449) (by decide +kernel) rfl
theorem wd_412 : Jvm.Cond.lays "SearchGridsModel" "SearchGridsModel" "things" "I" ∈ sg_tbl := gd (i := 451) (by decide +kernel) rfl
theorem wd_414 : Jvm.Cond.lays "SearchGridsModel" "SearchGridsModel" "lookers" "I" ∈ sg_tbl := gd (i := 453) (by decide +kernel) rfl
theorem wd_416 : Jvm.Cond.laysFinal "SearchGridsModel" "SearchGridsModel" "rate" "[I" ∈ sg_tbl := gd (i := 455) (by decide +kernel) rfl
theorem wd_418 : Jvm.Cond.laysFinal "SearchGridsModel" "SearchGridsModel" "hours" "[I" ∈ sg_tbl := gd (i := 457) (by decide +kernel) rfl
theorem wd_420 : Jvm.Cond.laysFinal "SearchGridsModel" "SearchGridsModel" "barred" "[Z" ∈ sg_tbl := gd (i := 459) (by decide +kernel) rfl
theorem wd_422 : Jvm.Cond.laysFinal "SearchGridsModel" "SearchGridsModel" "plan" "[I" ∈ sg_tbl := gd (i := 461) (by decide +kernel) rfl
theorem wd_424 : Jvm.Cond.laysFinal "SearchGridsModel" "SearchGridsModel" "trial" "[I" ∈ sg_tbl := gd (i := 463) (by decide +kernel) rfl
theorem wd_426 : Jvm.Cond.laysFinal "SearchGridsModel" "SearchGridsModel" "looked" "[I" ∈ sg_tbl := gd (i := 465) (by decide +kernel) rfl
theorem wd_428 : Jvm.Cond.lays "SearchGridsModel" "SearchGridsModel" "looks" "I" ∈ sg_tbl := gd (i := 467) (by decide +kernel) rfl
theorem wd_430 : Jvm.Cond.laysFinal "SearchGridsModel" "SearchGridsModel" "lookLooker" "[I" ∈ sg_tbl := gd (i := 469) (by decide +kernel) rfl
theorem wd_432 : Jvm.Cond.laysFinal "SearchGridsModel" "SearchGridsModel" "lookCell" "[I" ∈ sg_tbl := gd (i := 471) (by decide +kernel) rfl
theorem wd_434 : Jvm.Cond.laysFinal "SearchGridsModel" "SearchGridsModel" "lookHours" "[I" ∈ sg_tbl := gd (i := 473) (by decide +kernel) rfl
theorem wd_436 : Jvm.Cond.laysFinal "SearchGridsModel" "SearchGridsModel" "lookTold" "[J" ∈ sg_tbl := gd (i := 475) (by decide +kernel) rfl
theorem wd_438 : Jvm.Cond.lays "SearchGridsModel" "SearchGridsModel" "seenAt" "I" ∈ sg_tbl := gd (i := 477) (by decide +kernel) rfl
theorem wd_440 : Jvm.Cond.lays "SearchGridsModel" "SearchGridsModel" "above" "J" ∈ sg_tbl := gd (i := 479) (by decide +kernel) rfl
theorem wd_442 : Jvm.Cond.lays "SearchGridsModel" "SearchGridsModel" "below" "J" ∈ sg_tbl := gd (i := 481) (by decide +kernel) rfl
theorem wd_445 : Jvm.Cond.methodLink "SearchGridsLaw" (27 : Nat) ({ cls := "SearchGridsModel", name := "counts", desc := "(IJ)Z" } : Jvm.MethodName) ∈ sg_tbl := gd (i := 484) (by decide +kernel) rfl
theorem wd_446 : Jvm.Cond.instanceMethod ({ cls := "SearchGridsModel", name := "counts", desc := "(IJ)Z" } : Jvm.MethodName) ∈ sg_tbl := gd (i := 485) (by decide +kernel) rfl
theorem wd_447 : Jvm.Cond.selects "SearchGridsModel" ({ cls := "SearchGridsModel", name := "counts", desc := "(IJ)Z" } : Jvm.MethodName) ({ cls := "SearchGridsModel", name := "counts", desc := "(IJ)Z" } : Jvm.MethodName) ∈ sg_tbl := gd (i := 486) (by decide +kernel) rfl
set_option maxRecDepth 100000 in
theorem wd_448 : Jvm.Cond.code ({ cls := "SearchGridsModel", name := "counts", desc := "(IJ)Z" } : Jvm.MethodName) prog_6_method_8_code (4 : Nat) (Option.some Jvm.ClassFile.FieldType.boolean) ∈ sg_tbl := gd (i := 487) rfl rfl
theorem wd_449 : Jvm.Cond.methodLink "SearchGridsModel" (76 : Nat) ({ cls := "SearchGridsModel", name := "countsOf", desc := "(IIJ)Z" } : Jvm.MethodName) ∈ sg_tbl := gd (i := 488) (by decide +kernel) rfl
theorem wd_450 : Jvm.Cond.instanceMethod ({ cls := "SearchGridsModel", name := "countsOf", desc := "(IIJ)Z" } : Jvm.MethodName) ∈ sg_tbl := gd (i := 489) (by decide +kernel) rfl
theorem wd_451 : Jvm.Cond.selects "SearchGridsModel" ({ cls := "SearchGridsModel", name := "countsOf", desc := "(IIJ)Z" } : Jvm.MethodName) ({ cls := "SearchGridsModel", name := "countsOf", desc := "(IIJ)Z" } : Jvm.MethodName) ∈ sg_tbl := gd (i := 490) (by decide +kernel) rfl
set_option maxRecDepth 100000 in
theorem wd_452 : Jvm.Cond.code ({ cls := "SearchGridsModel", name := "countsOf", desc := "(IIJ)Z" } : Jvm.MethodName) prog_6_method_9_code (6 : Nat) (Option.some Jvm.ClassFile.FieldType.boolean) ∈ sg_tbl := gd (i := 491) rfl rfl
theorem wd_453 : Jvm.Cond.methodLink "SearchGridsModel" (80 : Nat) ({ cls := "SearchGridsModel", name := "isCell", desc := "(I)Z" } : Jvm.MethodName) ∈ sg_tbl := gd (i := 492) (by decide +kernel) rfl
theorem wd_455 : Jvm.Cond.instanceMethod ({ cls := "SearchGridsModel", name := "isCell", desc := "(I)Z" } : Jvm.MethodName) ∈ sg_tbl := gd (i := 494) (by decide +kernel) rfl
set_option maxRecDepth 100000 in
theorem wd_456 : Jvm.Cond.code ({ cls := "SearchGridsModel", name := "isCell", desc := "(I)Z" } : Jvm.MethodName) prog_6_method_2_code (2 : Nat) (Option.some Jvm.ClassFile.FieldType.boolean) ∈ sg_tbl := gd (i := 495) rfl rfl
theorem wd_457 : Jvm.Cond.constantLong "SearchGridsModel" (84 : Nat) (1000 : Int64) ∈ sg_tbl := gd (i := 496) (by decide +kernel) rfl
theorem wd_458 : Jvm.Cond.methodLink "SearchGridsModel" (68 : Nat) ({ cls := "SearchGridsModel", name := "place", desc := "(I)I" } : Jvm.MethodName) ∈ sg_tbl := gd (i := 497) (by decide +kernel) rfl
theorem wd_460 : Jvm.Cond.instanceMethod ({ cls := "SearchGridsModel", name := "place", desc := "(I)I" } : Jvm.MethodName) ∈ sg_tbl := gd (i := 499) (by decide +kernel) rfl
set_option maxRecDepth 100000 in
theorem wd_461 : Jvm.Cond.code ({ cls := "SearchGridsModel", name := "place", desc := "(I)I" } : Jvm.MethodName) prog_6_method_4_code (3 : Nat) (Option.some Jvm.ClassFile.FieldType.int) ∈ sg_tbl := gd (i := 500) rfl rfl
theorem wd_462 : Jvm.Cond.methodLink "SearchGridsModel" (86 : Nat) ({ cls := "SearchGridsModel", name := "tell", desc := "(I)I" } : Jvm.MethodName) ∈ sg_tbl := gd (i := 501) (by decide +kernel) rfl
theorem wd_464 : Jvm.Cond.instanceMethod ({ cls := "SearchGridsModel", name := "tell", desc := "(I)I" } : Jvm.MethodName) ∈ sg_tbl := gd (i := 503) (by decide +kernel) rfl
set_option maxRecDepth 100000 in
theorem wd_465 : Jvm.Cond.code ({ cls := "SearchGridsModel", name := "tell", desc := "(I)I" } : Jvm.MethodName) prog_6_method_5_code (5 : Nat) (Option.some Jvm.ClassFile.FieldType.int) ∈ sg_tbl := gd (i := 504) rfl rfl
theorem wd_466 : Jvm.Cond.methodLink "SearchGridsModel" (72 : Nat) ({ cls := "SearchGridsModel", name := "move", desc := "(II)V" } : Jvm.MethodName) ∈ sg_tbl := gd (i := 505) (by decide +kernel) rfl
theorem wd_468 : Jvm.Cond.instanceMethod ({ cls := "SearchGridsModel", name := "move", desc := "(II)V" } : Jvm.MethodName) ∈ sg_tbl := gd (i := 507) (by decide +kernel) rfl
set_option maxRecDepth 100000 in
theorem wd_469 : Jvm.Cond.code ({ cls := "SearchGridsModel", name := "move", desc := "(II)V" } : Jvm.MethodName) prog_6_method_6_code (4 : Nat) (Option.none : Option Jvm.ClassFile.FieldType) ∈ sg_tbl := gd (i := 508) rfl rfl
theorem wd_470 : Jvm.Cond.methodLink "SearchGridsModel" (89 : Nat) ({ cls := "SearchGridsModel", name := "changed", desc := "()V" } : Jvm.MethodName) ∈ sg_tbl := gd (i := 509) (by decide +kernel) rfl
theorem wd_472 : Jvm.Cond.instanceMethod ({ cls := "SearchGridsModel", name := "changed", desc := "()V" } : Jvm.MethodName) ∈ sg_tbl := gd (i := 511) (by decide +kernel) rfl
set_option maxRecDepth 100000 in
theorem wd_473 : Jvm.Cond.code ({ cls := "SearchGridsModel", name := "changed", desc := "()V" } : Jvm.MethodName) prog_6_method_7_code (2 : Nat) (Option.none : Option Jvm.ClassFile.FieldType) ∈ sg_tbl := gd (i := 512) rfl rfl
theorem wd_474 : Jvm.Cond.methodLink "SearchGridsLaw" (100 : Nat) ({ cls := "SearchGridsModel", name := "countsOf", desc := "(IIJ)Z" } : Jvm.MethodName) ∈ sg_tbl := gd (i := 513) (by decide +kernel) rfl
theorem wd_475 : Jvm.Cond.methodLink "SearchGridsLaw" (37 : Nat) ({ cls := "SearchGridsModel", name := "looker", desc := "(JJI)I" } : Jvm.MethodName) ∈ sg_tbl := gd (i := 514) (by decide +kernel) rfl
theorem wd_476 : Jvm.Cond.instanceMethod ({ cls := "SearchGridsModel", name := "looker", desc := "(JJI)I" } : Jvm.MethodName) ∈ sg_tbl := gd (i := 515) (by decide +kernel) rfl
theorem wd_477 : Jvm.Cond.selects "SearchGridsModel" ({ cls := "SearchGridsModel", name := "looker", desc := "(JJI)I" } : Jvm.MethodName) ({ cls := "SearchGridsModel", name := "looker", desc := "(JJI)I" } : Jvm.MethodName) ∈ sg_tbl := gd (i := 516) (by decide +kernel) rfl
set_option maxRecDepth 100000 in
theorem wd_478 : Jvm.Cond.code ({ cls := "SearchGridsModel", name := "looker", desc := "(JJI)I" } : Jvm.MethodName) prog_6_method_10_code (6 : Nat) (Option.some Jvm.ClassFile.FieldType.int) ∈ sg_tbl := gd (i := 517) rfl rfl
theorem wd_479 : Jvm.Cond.methodLink "SearchGridsLaw" (42 : Nat) ({ cls := "SearchGridsModel", name := "bar", desc := "(II)Z" } : Jvm.MethodName) ∈ sg_tbl := gd (i := 518) (by decide +kernel) rfl
theorem wd_480 : Jvm.Cond.instanceMethod ({ cls := "SearchGridsModel", name := "bar", desc := "(II)Z" } : Jvm.MethodName) ∈ sg_tbl := gd (i := 519) (by decide +kernel) rfl
theorem wd_481 : Jvm.Cond.selects "SearchGridsModel" ({ cls := "SearchGridsModel", name := "bar", desc := "(II)Z" } : Jvm.MethodName) ({ cls := "SearchGridsModel", name := "bar", desc := "(II)Z" } : Jvm.MethodName) ∈ sg_tbl := gd (i := 520) (by decide +kernel) rfl
set_option maxRecDepth 100000 in
theorem wd_482 : Jvm.Cond.code ({ cls := "SearchGridsModel", name := "bar", desc := "(II)Z" } : Jvm.MethodName) prog_6_method_11_code (3 : Nat) (Option.some Jvm.ClassFile.FieldType.boolean) ∈ sg_tbl := gd (i := 521) rfl rfl
theorem wd_483 : Jvm.Cond.methodLink "SearchGridsModel" (95 : Nat) ({ cls := "SearchGridsModel", name := "rest", desc := "(III)Z" } : Jvm.MethodName) ∈ sg_tbl := gd (i := 522) (by decide +kernel) rfl
theorem wd_484 : Jvm.Cond.instanceMethod ({ cls := "SearchGridsModel", name := "rest", desc := "(III)Z" } : Jvm.MethodName) ∈ sg_tbl := gd (i := 523) (by decide +kernel) rfl
theorem wd_485 : Jvm.Cond.selects "SearchGridsModel" ({ cls := "SearchGridsModel", name := "rest", desc := "(III)Z" } : Jvm.MethodName) ({ cls := "SearchGridsModel", name := "rest", desc := "(III)Z" } : Jvm.MethodName) ∈ sg_tbl := gd (i := 524) (by decide +kernel) rfl
set_option maxRecDepth 100000 in
theorem wd_486 : Jvm.Cond.code ({ cls := "SearchGridsModel", name := "rest", desc := "(III)Z" } : Jvm.MethodName) prog_6_method_12_code (5 : Nat) (Option.some Jvm.ClassFile.FieldType.boolean) ∈ sg_tbl := gd (i := 525) rfl rfl
theorem wd_487 : Jvm.Cond.methodLink "SearchGridsModel" (99 : Nat) ({ cls := "SearchGridsModel", name := "isLooker", desc := "(I)Z" } : Jvm.MethodName) ∈ sg_tbl := gd (i := 526) (by decide +kernel) rfl
theorem wd_489 : Jvm.Cond.instanceMethod ({ cls := "SearchGridsModel", name := "isLooker", desc := "(I)Z" } : Jvm.MethodName) ∈ sg_tbl := gd (i := 528) (by decide +kernel) rfl
set_option maxRecDepth 100000 in
theorem wd_490 : Jvm.Cond.code ({ cls := "SearchGridsModel", name := "isLooker", desc := "(I)Z" } : Jvm.MethodName) prog_6_method_3_code (2 : Nat) (Option.some Jvm.ClassFile.FieldType.boolean) ∈ sg_tbl := gd (i := 529) rfl rfl
theorem wd_491 : Jvm.Cond.methodLink "SearchGridsLaw" (90 : Nat) ({ cls := "SearchGridsModel", name := "rest", desc := "(III)Z" } : Jvm.MethodName) ∈ sg_tbl := gd (i := 530) (by decide +kernel) rfl
theorem wd_492 : Jvm.Cond.methodLink "SearchGridsLaw" (95 : Nat) ({ cls := "SearchGridsModel", name := "thing", desc := "()I" } : Jvm.MethodName) ∈ sg_tbl := gd (i := 531) (by decide +kernel) rfl
theorem wd_493 : Jvm.Cond.instanceMethod ({ cls := "SearchGridsModel", name := "thing", desc := "()I" } : Jvm.MethodName) ∈ sg_tbl := gd (i := 532) (by decide +kernel) rfl
theorem wd_494 : Jvm.Cond.selects "SearchGridsModel" ({ cls := "SearchGridsModel", name := "thing", desc := "()I" } : Jvm.MethodName) ({ cls := "SearchGridsModel", name := "thing", desc := "()I" } : Jvm.MethodName) ∈ sg_tbl := gd (i := 533) (by decide +kernel) rfl
set_option maxRecDepth 100000 in
theorem wd_495 : Jvm.Cond.code ({ cls := "SearchGridsModel", name := "thing", desc := "()I" } : Jvm.MethodName) prog_6_method_13_code (1 : Nat) (Option.some Jvm.ClassFile.FieldType.int) ∈ sg_tbl := gd (i := 534) rfl rfl
theorem wd_496 : Jvm.Cond.methodLink "SearchGridsLaw" (125 : Nat) ({ cls := "SearchGridsModel", name := "area", desc := "(IJ)Z" } : Jvm.MethodName) ∈ sg_tbl := gd (i := 535) (by decide +kernel) rfl
theorem wd_497 : Jvm.Cond.instanceMethod ({ cls := "SearchGridsModel", name := "area", desc := "(IJ)Z" } : Jvm.MethodName) ∈ sg_tbl := gd (i := 536) (by decide +kernel) rfl
theorem wd_498 : Jvm.Cond.selects "SearchGridsModel" ({ cls := "SearchGridsModel", name := "area", desc := "(IJ)Z" } : Jvm.MethodName) ({ cls := "SearchGridsModel", name := "area", desc := "(IJ)Z" } : Jvm.MethodName) ∈ sg_tbl := gd (i := 537) (by decide +kernel) rfl
set_option maxRecDepth 100000 in
theorem wd_499 : Jvm.Cond.code ({ cls := "SearchGridsModel", name := "area", desc := "(IJ)Z" } : Jvm.MethodName) prog_6_method_14_code (5 : Nat) (Option.some Jvm.ClassFile.FieldType.boolean) ∈ sg_tbl := gd (i := 538) rfl rfl
theorem wd_500 : Jvm.Cond.constantLong "SearchGridsModel" (102 : Nat) (720 : Int64) ∈ sg_tbl := gd (i := 539) (by decide +kernel) rfl
theorem wd_501 : Jvm.Cond.methodLink "SearchGridsLaw" (105 : Nat) ({ cls := "SearchGridsModel", name := "stop", desc := "(JJ)Z" } : Jvm.MethodName) ∈ sg_tbl := gd (i := 540) (by decide +kernel) rfl
theorem wd_502 : Jvm.Cond.instanceMethod ({ cls := "SearchGridsModel", name := "stop", desc := "(JJ)Z" } : Jvm.MethodName) ∈ sg_tbl := gd (i := 541) (by decide +kernel) rfl
theorem wd_503 : Jvm.Cond.selects "SearchGridsModel" ({ cls := "SearchGridsModel", name := "stop", desc := "(JJ)Z" } : Jvm.MethodName) ({ cls := "SearchGridsModel", name := "stop", desc := "(JJ)Z" } : Jvm.MethodName) ∈ sg_tbl := gd (i := 542) (by decide +kernel) rfl
set_option maxRecDepth 100000 in
theorem wd_504 : Jvm.Cond.code ({ cls := "SearchGridsModel", name := "stop", desc := "(JJ)Z" } : Jvm.MethodName) prog_6_method_15_code (5 : Nat) (Option.some Jvm.ClassFile.FieldType.boolean) ∈ sg_tbl := gd (i := 543) rfl rfl
theorem wd_505 : Jvm.Cond.constantLong "SearchGridsModel" (104 : Nat) (100 : Int64) ∈ sg_tbl := gd (i := 544) (by decide +kernel) rfl
theorem wd_506 : Jvm.Cond.methodLink "SearchGridsLaw" (47 : Nat) ({ cls := "SearchGridsModel", name := "share", desc := "(I)I" } : Jvm.MethodName) ∈ sg_tbl := gd (i := 545) (by decide +kernel) rfl
theorem wd_507 : Jvm.Cond.instanceMethod ({ cls := "SearchGridsModel", name := "share", desc := "(I)I" } : Jvm.MethodName) ∈ sg_tbl := gd (i := 546) (by decide +kernel) rfl
theorem wd_508 : Jvm.Cond.selects "SearchGridsModel" ({ cls := "SearchGridsModel", name := "share", desc := "(I)I" } : Jvm.MethodName) ({ cls := "SearchGridsModel", name := "share", desc := "(I)I" } : Jvm.MethodName) ∈ sg_tbl := gd (i := 547) (by decide +kernel) rfl
set_option maxRecDepth 100000 in
theorem wd_509 : Jvm.Cond.code ({ cls := "SearchGridsModel", name := "share", desc := "(I)I" } : Jvm.MethodName) prog_6_method_22_code (13 : Nat) (Option.some Jvm.ClassFile.FieldType.int) ∈ sg_tbl := gd (i := 548) rfl rfl
theorem wd_510 : Jvm.Cond.methodLink "SearchGridsModel" (126 : Nat) ({ cls := "SearchGridsModel", name := "worth", desc := "([I)J" } : Jvm.MethodName) ∈ sg_tbl := gd (i := 549) (by decide +kernel) rfl
theorem wd_512 : Jvm.Cond.instanceMethod ({ cls := "SearchGridsModel", name := "worth", desc := "([I)J" } : Jvm.MethodName) ∈ sg_tbl := gd (i := 551) (by decide +kernel) rfl
set_option maxRecDepth 100000 in
theorem wd_513 : Jvm.Cond.code ({ cls := "SearchGridsModel", name := "worth", desc := "([I)J" } : Jvm.MethodName) prog_6_method_18_code (5 : Nat) (Option.some Jvm.ClassFile.FieldType.long) ∈ sg_tbl := gd (i := 552) rfl rfl
theorem wd_514 : Jvm.Cond.methodLink "SearchGridsModel" (113 : Nat) ({ cls := "SearchGridsModel", name := "weight", desc := "(I)I" } : Jvm.MethodName) ∈ sg_tbl := gd (i := 553) (by decide +kernel) rfl
theorem wd_516 : Jvm.Cond.instanceMethod ({ cls := "SearchGridsModel", name := "weight", desc := "(I)I" } : Jvm.MethodName) ∈ sg_tbl := gd (i := 555) (by decide +kernel) rfl
set_option maxRecDepth 100000 in
theorem wd_517 : Jvm.Cond.code ({ cls := "SearchGridsModel", name := "weight", desc := "(I)I" } : Jvm.MethodName) prog_6_method_17_code (2 : Nat) (Option.some Jvm.ClassFile.FieldType.int) ∈ sg_tbl := gd (i := 556) rfl rfl
theorem wd_518 : Jvm.Cond.constantLong "SearchGridsModel" (116 : Nat) (268738560000 : Int64) ∈ sg_tbl := gd (i := 557) (by decide +kernel) rfl
theorem wd_519 : Jvm.Cond.methodLink "SearchGridsModel" (118 : Nat) ({ cls := "SearchGridsModel", name := "missed", desc := "([II)J" } : Jvm.MethodName) ∈ sg_tbl := gd (i := 558) (by decide +kernel) rfl
theorem wd_521 : Jvm.Cond.instanceMethod ({ cls := "SearchGridsModel", name := "missed", desc := "([II)J" } : Jvm.MethodName) ∈ sg_tbl := gd (i := 560) (by decide +kernel) rfl
set_option maxRecDepth 100000 in
theorem wd_522 : Jvm.Cond.code ({ cls := "SearchGridsModel", name := "missed", desc := "([II)J" } : Jvm.MethodName) prog_6_method_16_code (8 : Nat) (Option.some Jvm.ClassFile.FieldType.long) ∈ sg_tbl := gd (i := 561) rfl rfl
theorem wd_523 : Jvm.Cond.methodLink "SearchGridsModel" (122 : Nat) ({ cls := "SearchGridsModel", name := "given", desc := "([II)I" } : Jvm.MethodName) ∈ sg_tbl := gd (i := 562) (by decide +kernel) rfl
theorem wd_525 : Jvm.Cond.instanceMethod ({ cls := "SearchGridsModel", name := "given", desc := "([II)I" } : Jvm.MethodName) ∈ sg_tbl := gd (i := 564) (by decide +kernel) rfl
set_option maxRecDepth 100000 in
theorem wd_526 : Jvm.Cond.code ({ cls := "SearchGridsModel", name := "given", desc := "([II)I" } : Jvm.MethodName) prog_6_method_20_code (5 : Nat) (Option.some Jvm.ClassFile.FieldType.int) ∈ sg_tbl := gd (i := 565) rfl rfl
theorem wd_527 : Jvm.Cond.methodLink "SearchGridsModel" (130 : Nat) ({ cls := "SearchGridsModel", name := "use", desc := "(I)I" } : Jvm.MethodName) ∈ sg_tbl := gd (i := 566) (by decide +kernel) rfl
theorem wd_529 : Jvm.Cond.instanceMethod ({ cls := "SearchGridsModel", name := "use", desc := "(I)I" } : Jvm.MethodName) ∈ sg_tbl := gd (i := 568) (by decide +kernel) rfl
set_option maxRecDepth 100000 in
theorem wd_530 : Jvm.Cond.code ({ cls := "SearchGridsModel", name := "use", desc := "(I)I" } : Jvm.MethodName) prog_6_method_19_code (4 : Nat) (Option.some Jvm.ClassFile.FieldType.int) ∈ sg_tbl := gd (i := 569) rfl rfl
theorem wd_531 : Jvm.Cond.methodLink "SearchGridsModel" (133 : Nat) ({ cls := "SearchGridsModel", name := "size", desc := "()I" } : Jvm.MethodName) ∈ sg_tbl := gd (i := 570) (by decide +kernel) rfl
theorem wd_533 : Jvm.Cond.instanceMethod ({ cls := "SearchGridsModel", name := "size", desc := "()I" } : Jvm.MethodName) ∈ sg_tbl := gd (i := 572) (by decide +kernel) rfl
set_option maxRecDepth 100000 in
theorem wd_534 : Jvm.Cond.code ({ cls := "SearchGridsModel", name := "size", desc := "()I" } : Jvm.MethodName) prog_6_method_21_code (3 : Nat) (Option.some Jvm.ClassFile.FieldType.int) ∈ sg_tbl := gd (i := 573) rfl rfl
theorem wd_535 : Jvm.Cond.methodLink "SearchGridsLaw" (52 : Nat) ({ cls := "SearchGridsModel", name := "of", desc := "(II)I" } : Jvm.MethodName) ∈ sg_tbl := gd (i := 574) (by decide +kernel) rfl
theorem wd_536 : Jvm.Cond.instanceMethod ({ cls := "SearchGridsModel", name := "of", desc := "(II)I" } : Jvm.MethodName) ∈ sg_tbl := gd (i := 575) (by decide +kernel) rfl
theorem wd_537 : Jvm.Cond.selects "SearchGridsModel" ({ cls := "SearchGridsModel", name := "of", desc := "(II)I" } : Jvm.MethodName) ({ cls := "SearchGridsModel", name := "of", desc := "(II)I" } : Jvm.MethodName) ∈ sg_tbl := gd (i := 576) (by decide +kernel) rfl
set_option maxRecDepth 100000 in
theorem wd_538 : Jvm.Cond.code ({ cls := "SearchGridsModel", name := "of", desc := "(II)I" } : Jvm.MethodName) prog_6_method_23_code (3 : Nat) (Option.some Jvm.ClassFile.FieldType.int) ∈ sg_tbl := gd (i := 577) rfl rfl
theorem wd_539 : Jvm.Cond.methodLink "SearchGridsLaw" (57 : Nat) ({ cls := "SearchGridsModel", name := "tried", desc := "()Z" } : Jvm.MethodName) ∈ sg_tbl := gd (i := 578) (by decide +kernel) rfl
theorem wd_540 : Jvm.Cond.instanceMethod ({ cls := "SearchGridsModel", name := "tried", desc := "()Z" } : Jvm.MethodName) ∈ sg_tbl := gd (i := 579) (by decide +kernel) rfl
theorem wd_541 : Jvm.Cond.selects "SearchGridsModel" ({ cls := "SearchGridsModel", name := "tried", desc := "()Z" } : Jvm.MethodName) ({ cls := "SearchGridsModel", name := "tried", desc := "()Z" } : Jvm.MethodName) ∈ sg_tbl := gd (i := 580) (by decide +kernel) rfl
set_option maxRecDepth 100000 in
theorem wd_542 : Jvm.Cond.code ({ cls := "SearchGridsModel", name := "tried", desc := "()Z" } : Jvm.MethodName) prog_6_method_24_code (5 : Nat) (Option.some Jvm.ClassFile.FieldType.boolean) ∈ sg_tbl := gd (i := 581) rfl rfl
theorem wd_543 : Jvm.Cond.methodLink "SearchGridsModel" (137 : Nat) ({ cls := "SearchGridsModel", name := "isBetter", desc := "(IIJ)Z" } : Jvm.MethodName) ∈ sg_tbl := gd (i := 582) (by decide +kernel) rfl
theorem wd_545 : Jvm.Cond.instanceMethod ({ cls := "SearchGridsModel", name := "isBetter", desc := "(IIJ)Z" } : Jvm.MethodName) ∈ sg_tbl := gd (i := 584) (by decide +kernel) rfl
set_option maxRecDepth 100000 in
theorem wd_546 : Jvm.Cond.code ({ cls := "SearchGridsModel", name := "isBetter", desc := "(IIJ)Z" } : Jvm.MethodName) prog_6_method_25_code (9 : Nat) (Option.some Jvm.ClassFile.FieldType.boolean) ∈ sg_tbl := gd (i := 585) rfl rfl
theorem wd_547 : Jvm.Cond.methodLink "SearchGridsModel" (140 : Nat) ({ cls := "SearchGridsModel", name := "slot", desc := "(I)I" } : Jvm.MethodName) ∈ sg_tbl := gd (i := 586) (by decide +kernel) rfl
theorem wd_549 : Jvm.Cond.instanceMethod ({ cls := "SearchGridsModel", name := "slot", desc := "(I)I" } : Jvm.MethodName) ∈ sg_tbl := gd (i := 588) (by decide +kernel) rfl
set_option maxRecDepth 100000 in
theorem wd_550 : Jvm.Cond.code ({ cls := "SearchGridsModel", name := "slot", desc := "(I)I" } : Jvm.MethodName) prog_6_method_26_code (2 : Nat) (Option.some Jvm.ClassFile.FieldType.int) ∈ sg_tbl := gd (i := 589) rfl rfl
theorem wd_551 : Jvm.Cond.methodLink "SearchGridsLaw" (32 : Nat) ({ cls := "SearchGridsModel", name := "odds", desc := "(II)J" } : Jvm.MethodName) ∈ sg_tbl := gd (i := 590) (by decide +kernel) rfl
theorem wd_552 : Jvm.Cond.instanceMethod ({ cls := "SearchGridsModel", name := "odds", desc := "(II)J" } : Jvm.MethodName) ∈ sg_tbl := gd (i := 591) (by decide +kernel) rfl
theorem wd_553 : Jvm.Cond.selects "SearchGridsModel" ({ cls := "SearchGridsModel", name := "odds", desc := "(II)J" } : Jvm.MethodName) ({ cls := "SearchGridsModel", name := "odds", desc := "(II)J" } : Jvm.MethodName) ∈ sg_tbl := gd (i := 592) (by decide +kernel) rfl
set_option maxRecDepth 100000 in
theorem wd_554 : Jvm.Cond.code ({ cls := "SearchGridsModel", name := "odds", desc := "(II)J" } : Jvm.MethodName) prog_6_method_31_code (4 : Nat) (Option.some Jvm.ClassFile.FieldType.long) ∈ sg_tbl := gd (i := 593) rfl rfl
theorem wd_555 : Jvm.Cond.constantLong "SearchGridsModel" (143 : Nat) (-1 : Int64) ∈ sg_tbl := gd (i := 594) (by decide +kernel) rfl
theorem wd_556 : Jvm.Cond.methodLink "SearchGridsModel" (149 : Nat) ({ cls := "SearchGridsModel", name := "all", desc := "()J" } : Jvm.MethodName) ∈ sg_tbl := gd (i := 595) (by decide +kernel) rfl
theorem wd_558 : Jvm.Cond.instanceMethod ({ cls := "SearchGridsModel", name := "all", desc := "()J" } : Jvm.MethodName) ∈ sg_tbl := gd (i := 597) (by decide +kernel) rfl
set_option maxRecDepth 100000 in
theorem wd_559 : Jvm.Cond.code ({ cls := "SearchGridsModel", name := "all", desc := "()J" } : Jvm.MethodName) prog_6_method_29_code (4 : Nat) (Option.some Jvm.ClassFile.FieldType.long) ∈ sg_tbl := gd (i := 598) rfl rfl
theorem wd_560 : Jvm.Cond.methodLink "SearchGridsModel" (153 : Nat) ({ cls := "SearchGridsModel", name := "part", desc := "(JJI)J" } : Jvm.MethodName) ∈ sg_tbl := gd (i := 599) (by decide +kernel) rfl
theorem wd_561 : Jvm.Cond.static ({ cls := "SearchGridsModel", name := "part", desc := "(JJI)J" } : Jvm.MethodName) ∈ sg_tbl := gd (i := 600) (by decide +kernel) rfl
set_option maxRecDepth 100000 in
theorem wd_562 : Jvm.Cond.code ({ cls := "SearchGridsModel", name := "part", desc := "(JJI)J" } : Jvm.MethodName) prog_6_method_28_code (7 : Nat) (Option.some Jvm.ClassFile.FieldType.long) ∈ sg_tbl := gd (i := 601) rfl rfl
theorem wd_563 : Jvm.Cond.methodLink "SearchGridsModel" (145 : Nat) ({ cls := "SearchGridsModel", name := "common", desc := "(JJ)J" } : Jvm.MethodName) ∈ sg_tbl := gd (i := 602) (by decide +kernel) rfl
theorem wd_564 : Jvm.Cond.static ({ cls := "SearchGridsModel", name := "common", desc := "(JJ)J" } : Jvm.MethodName) ∈ sg_tbl := gd (i := 603) (by decide +kernel) rfl
set_option maxRecDepth 100000 in
theorem wd_565 : Jvm.Cond.code ({ cls := "SearchGridsModel", name := "common", desc := "(JJ)J" } : Jvm.MethodName) prog_6_method_27_code (10 : Nat) (Option.some Jvm.ClassFile.FieldType.long) ∈ sg_tbl := gd (i := 604) rfl rfl
theorem wd_566 : Jvm.Cond.methodLink "SearchGridsLaw" (66 : Nat) ({ cls := "SearchGridsModel", name := "after", desc := "(II)J" } : Jvm.MethodName) ∈ sg_tbl := gd (i := 605) (by decide +kernel) rfl
theorem wd_567 : Jvm.Cond.instanceMethod ({ cls := "SearchGridsModel", name := "after", desc := "(II)J" } : Jvm.MethodName) ∈ sg_tbl := gd (i := 606) (by decide +kernel) rfl
theorem wd_568 : Jvm.Cond.selects "SearchGridsModel" ({ cls := "SearchGridsModel", name := "after", desc := "(II)J" } : Jvm.MethodName) ({ cls := "SearchGridsModel", name := "after", desc := "(II)J" } : Jvm.MethodName) ∈ sg_tbl := gd (i := 607) (by decide +kernel) rfl
set_option maxRecDepth 100000 in
theorem wd_569 : Jvm.Cond.code ({ cls := "SearchGridsModel", name := "after", desc := "(II)J" } : Jvm.MethodName) prog_6_method_32_code (4 : Nat) (Option.some Jvm.ClassFile.FieldType.long) ∈ sg_tbl := gd (i := 608) rfl rfl
theorem wd_570 : Jvm.Cond.methodLink "SearchGridsModel" (157 : Nat) ({ cls := "SearchGridsModel", name := "left", desc := "()J" } : Jvm.MethodName) ∈ sg_tbl := gd (i := 609) (by decide +kernel) rfl
theorem wd_572 : Jvm.Cond.instanceMethod ({ cls := "SearchGridsModel", name := "left", desc := "()J" } : Jvm.MethodName) ∈ sg_tbl := gd (i := 611) (by decide +kernel) rfl
set_option maxRecDepth 100000 in
theorem wd_573 : Jvm.Cond.code ({ cls := "SearchGridsModel", name := "left", desc := "()J" } : Jvm.MethodName) prog_6_method_30_code (4 : Nat) (Option.some Jvm.ClassFile.FieldType.long) ∈ sg_tbl := gd (i := 612) rfl rfl
theorem wd_574 : Jvm.Cond.methodLink "SearchGridsLaw" (70 : Nat) ({ cls := "SearchGridsModel", name := "sums", desc := "()Z" } : Jvm.MethodName) ∈ sg_tbl := gd (i := 613) (by decide +kernel) rfl
theorem wd_575 : Jvm.Cond.instanceMethod ({ cls := "SearchGridsModel", name := "sums", desc := "()Z" } : Jvm.MethodName) ∈ sg_tbl := gd (i := 614) (by decide +kernel) rfl
theorem wd_576 : Jvm.Cond.selects "SearchGridsModel" ({ cls := "SearchGridsModel", name := "sums", desc := "()Z" } : Jvm.MethodName) ({ cls := "SearchGridsModel", name := "sums", desc := "()Z" } : Jvm.MethodName) ∈ sg_tbl := gd (i := 615) (by decide +kernel) rfl
set_option maxRecDepth 100000 in
theorem wd_577 : Jvm.Cond.code ({ cls := "SearchGridsModel", name := "sums", desc := "()Z" } : Jvm.MethodName) prog_6_method_33_code (1 : Nat) (Option.some Jvm.ClassFile.FieldType.boolean) ∈ sg_tbl := gd (i := 616) rfl rfl
theorem wd_578 : Jvm.Cond.methodLink "SearchGridsLaw" (75 : Nat) ({ cls := "SearchGridsModel", name := "found", desc := "(I)J" } : Jvm.MethodName) ∈ sg_tbl := gd (i := 617) (by decide +kernel) rfl
theorem wd_579 : Jvm.Cond.instanceMethod ({ cls := "SearchGridsModel", name := "found", desc := "(I)J" } : Jvm.MethodName) ∈ sg_tbl := gd (i := 618) (by decide +kernel) rfl
theorem wd_580 : Jvm.Cond.selects "SearchGridsModel" ({ cls := "SearchGridsModel", name := "found", desc := "(I)J" } : Jvm.MethodName) ({ cls := "SearchGridsModel", name := "found", desc := "(I)J" } : Jvm.MethodName) ∈ sg_tbl := gd (i := 619) (by decide +kernel) rfl
set_option maxRecDepth 100000 in
theorem wd_581 : Jvm.Cond.code ({ cls := "SearchGridsModel", name := "found", desc := "(I)J" } : Jvm.MethodName) prog_6_method_34_code (5 : Nat) (Option.some Jvm.ClassFile.FieldType.long) ∈ sg_tbl := gd (i := 620) rfl rfl
theorem wd_582 : Jvm.Cond.methodLink "SearchGridsLaw" (62 : Nat) ({ cls := "SearchGridsModel", name := "look", desc := "(IIJJ)I" } : Jvm.MethodName) ∈ sg_tbl := gd (i := 621) (by decide +kernel) rfl
theorem wd_583 : Jvm.Cond.instanceMethod ({ cls := "SearchGridsModel", name := "look", desc := "(IIJJ)I" } : Jvm.MethodName) ∈ sg_tbl := gd (i := 622) (by decide +kernel) rfl
theorem wd_584 : Jvm.Cond.selects "SearchGridsModel" ({ cls := "SearchGridsModel", name := "look", desc := "(IIJJ)I" } : Jvm.MethodName) ({ cls := "SearchGridsModel", name := "look", desc := "(IIJJ)I" } : Jvm.MethodName) ∈ sg_tbl := gd (i := 623) (by decide +kernel) rfl
set_option maxRecDepth 100000 in
theorem wd_585 : Jvm.Cond.code ({ cls := "SearchGridsModel", name := "look", desc := "(IIJJ)I" } : Jvm.MethodName) prog_6_method_35_code (7 : Nat) (Option.some Jvm.ClassFile.FieldType.int) ∈ sg_tbl := gd (i := 624) rfl rfl
theorem wd_586 : Jvm.Cond.methodLink "SearchGridsLaw" (117 : Nat) ({ cls := "SearchGridsModel", name := "seen", desc := "(II)Z" } : Jvm.MethodName) ∈ sg_tbl := gd (i := 625) (by decide +kernel) rfl
theorem wd_587 : Jvm.Cond.instanceMethod ({ cls := "SearchGridsModel", name := "seen", desc := "(II)Z" } : Jvm.MethodName) ∈ sg_tbl := gd (i := 626) (by decide +kernel) rfl
theorem wd_588 : Jvm.Cond.selects "SearchGridsModel" ({ cls := "SearchGridsModel", name := "seen", desc := "(II)Z" } : Jvm.MethodName) ({ cls := "SearchGridsModel", name := "seen", desc := "(II)Z" } : Jvm.MethodName) ∈ sg_tbl := gd (i := 627) (by decide +kernel) rfl
set_option maxRecDepth 100000 in
theorem wd_589 : Jvm.Cond.code ({ cls := "SearchGridsModel", name := "seen", desc := "(II)Z" } : Jvm.MethodName) prog_6_method_36_code (3 : Nat) (Option.some Jvm.ClassFile.FieldType.boolean) ∈ sg_tbl := gd (i := 628) rfl rfl
theorem wd_590 : Jvm.Cond.methodLink "SearchGridsLaw" (109 : Nat) ({ cls := "SearchGridsModel", name := "stops", desc := "()I" } : Jvm.MethodName) ∈ sg_tbl := gd (i := 629) (by decide +kernel) rfl
theorem wd_591 : Jvm.Cond.instanceMethod ({ cls := "SearchGridsModel", name := "stops", desc := "()I" } : Jvm.MethodName) ∈ sg_tbl := gd (i := 630) (by decide +kernel) rfl
theorem wd_592 : Jvm.Cond.selects "SearchGridsModel" ({ cls := "SearchGridsModel", name := "stops", desc := "()I" } : Jvm.MethodName) ({ cls := "SearchGridsModel", name := "stops", desc := "()I" } : Jvm.MethodName) ∈ sg_tbl := gd (i := 631) (by decide +kernel) rfl
set_option maxRecDepth 100000 in
theorem wd_593 : Jvm.Cond.code ({ cls := "SearchGridsModel", name := "stops", desc := "()I" } : Jvm.MethodName) prog_6_method_37_code (1 : Nat) (Option.some Jvm.ClassFile.FieldType.int) ∈ sg_tbl := gd (i := 632) rfl rfl
theorem wd_594 : Jvm.Cond.methodLink "SearchGridsLaw" (113 : Nat) ({ cls := "SearchGridsModel", name := "order", desc := "(I)I" } : Jvm.MethodName) ∈ sg_tbl := gd (i := 633) (by decide +kernel) rfl
theorem wd_595 : Jvm.Cond.instanceMethod ({ cls := "SearchGridsModel", name := "order", desc := "(I)I" } : Jvm.MethodName) ∈ sg_tbl := gd (i := 634) (by decide +kernel) rfl
theorem wd_596 : Jvm.Cond.selects "SearchGridsModel" ({ cls := "SearchGridsModel", name := "order", desc := "(I)I" } : Jvm.MethodName) ({ cls := "SearchGridsModel", name := "order", desc := "(I)I" } : Jvm.MethodName) ∈ sg_tbl := gd (i := 635) (by decide +kernel) rfl
set_option maxRecDepth 100000 in
theorem wd_597 : Jvm.Cond.code ({ cls := "SearchGridsModel", name := "order", desc := "(I)I" } : Jvm.MethodName) prog_6_method_39_code (5 : Nat) (Option.some Jvm.ClassFile.FieldType.int) ∈ sg_tbl := gd (i := 636) rfl rfl
theorem wd_598 : Jvm.Cond.methodLink "SearchGridsModel" (160 : Nat) ({ cls := "SearchGridsModel", name := "rank", desc := "(I)J" } : Jvm.MethodName) ∈ sg_tbl := gd (i := 637) (by decide +kernel) rfl
theorem wd_600 : Jvm.Cond.instanceMethod ({ cls := "SearchGridsModel", name := "rank", desc := "(I)J" } : Jvm.MethodName) ∈ sg_tbl := gd (i := 639) (by decide +kernel) rfl
set_option maxRecDepth 100000 in
theorem wd_601 : Jvm.Cond.code ({ cls := "SearchGridsModel", name := "rank", desc := "(I)J" } : Jvm.MethodName) prog_6_method_38_code (2 : Nat) (Option.some Jvm.ClassFile.FieldType.long) ∈ sg_tbl := gd (i := 640) rfl rfl
theorem wd_602 : Jvm.Cond.methodLink "SearchGridsLaw" (121 : Nat) ({ cls := "SearchGridsModel", name := "log", desc := "(II)I" } : Jvm.MethodName) ∈ sg_tbl := gd (i := 641) (by decide +kernel) rfl
theorem wd_603 : Jvm.Cond.instanceMethod ({ cls := "SearchGridsModel", name := "log", desc := "(II)I" } : Jvm.MethodName) ∈ sg_tbl := gd (i := 642) (by decide +kernel) rfl
theorem wd_604 : Jvm.Cond.selects "SearchGridsModel" ({ cls := "SearchGridsModel", name := "log", desc := "(II)I" } : Jvm.MethodName) ({ cls := "SearchGridsModel", name := "log", desc := "(II)I" } : Jvm.MethodName) ∈ sg_tbl := gd (i := 643) (by decide +kernel) rfl
set_option maxRecDepth 100000 in
theorem wd_605 : Jvm.Cond.code ({ cls := "SearchGridsModel", name := "log", desc := "(II)I" } : Jvm.MethodName) prog_6_method_40_code (6 : Nat) (Option.some Jvm.ClassFile.FieldType.int) ∈ sg_tbl := gd (i := 644) rfl rfl
theorem wd_606 : Jvm.Cond.methodLink "SearchGridsLaw" (80 : Nat) ({ cls := "SearchGridsModel", name := "line", desc := "(III)I" } : Jvm.MethodName) ∈ sg_tbl := gd (i := 645) (by decide +kernel) rfl
theorem wd_607 : Jvm.Cond.instanceMethod ({ cls := "SearchGridsModel", name := "line", desc := "(III)I" } : Jvm.MethodName) ∈ sg_tbl := gd (i := 646) (by decide +kernel) rfl
theorem wd_608 : Jvm.Cond.selects "SearchGridsModel" ({ cls := "SearchGridsModel", name := "line", desc := "(III)I" } : Jvm.MethodName) ({ cls := "SearchGridsModel", name := "line", desc := "(III)I" } : Jvm.MethodName) ∈ sg_tbl := gd (i := 647) (by decide +kernel) rfl
set_option maxRecDepth 100000 in
theorem wd_609 : Jvm.Cond.code ({ cls := "SearchGridsModel", name := "line", desc := "(III)I" } : Jvm.MethodName) prog_6_method_41_code (7 : Nat) (Option.some Jvm.ClassFile.FieldType.int) ∈ sg_tbl := gd (i := 648) rfl rfl
theorem wd_610 : Jvm.Cond.methodLink "SearchGridsLaw" (85 : Nat) ({ cls := "SearchGridsModel", name := "covers", desc := "(I)Z" } : Jvm.MethodName) ∈ sg_tbl := gd (i := 649) (by decide +kernel) rfl
theorem wd_611 : Jvm.Cond.instanceMethod ({ cls := "SearchGridsModel", name := "covers", desc := "(I)Z" } : Jvm.MethodName) ∈ sg_tbl := gd (i := 650) (by decide +kernel) rfl
theorem wd_612 : Jvm.Cond.selects "SearchGridsModel" ({ cls := "SearchGridsModel", name := "covers", desc := "(I)Z" } : Jvm.MethodName) ({ cls := "SearchGridsModel", name := "covers", desc := "(I)Z" } : Jvm.MethodName) ∈ sg_tbl := gd (i := 651) (by decide +kernel) rfl
set_option maxRecDepth 100000 in
theorem wd_613 : Jvm.Cond.code ({ cls := "SearchGridsModel", name := "covers", desc := "(I)Z" } : Jvm.MethodName) prog_6_method_42_code (2 : Nat) (Option.some Jvm.ClassFile.FieldType.boolean) ∈ sg_tbl := gd (i := 652) rfl rfl
theorem wd_614 : Jvm.Cond.constantLong "SearchGridsLaw" (21 : Nat) (4294967295 : Int64) ∈ sg_tbl := gd (i := 653) (by decide +kernel) rfl
theorem sl_0 : Cond.selects "SearchGrids" ⟨"SearchGrids", "isCell", "(I)Z"⟩ ⟨"SearchGrids", "isCell", "(I)Z"⟩ ∈ sg_tbl := gd (i := 0) (by decide +kernel) rfl
theorem sl_1 : Cond.selects "SearchGrids" ⟨"SearchGrids", "tellOf", "(I)I"⟩ ⟨"SearchGrids", "tellOf", "(I)I"⟩ ∈ sg_tbl := gd (i := 1) (by decide +kernel) rfl
theorem sl_2 : Cond.selects "SearchGrids" ⟨"SearchGrids", "placeOf", "(I)I"⟩ ⟨"SearchGrids", "placeOf", "(I)I"⟩ ∈ sg_tbl := gd (i := 2) (by decide +kernel) rfl
theorem sl_3 : Cond.selects "SearchGrids" ⟨"SearchGrids", "dropPlan", "()V"⟩ ⟨"SearchGrids", "dropPlan", "()V"⟩ ∈ sg_tbl := gd (i := 3) (by decide +kernel) rfl
theorem sl_4 : Cond.selects "SearchGrids" ⟨"SearchGrids", "allCounts", "()J"⟩ ⟨"SearchGrids", "allCounts", "()J"⟩ ∈ sg_tbl := gd (i := 4) (by decide +kernel) rfl
theorem sl_5 : Cond.selects "SearchGrids$Looker" ⟨"SearchGrids$Looker", "begin", "(I)V"⟩ ⟨"SearchGrids$Looker", "begin", "(I)V"⟩ ∈ sg_tbl := gd (i := 5) (by decide +kernel) rfl
theorem sl_6 : Cond.selects "SearchGrids" ⟨"SearchGrids", "isLooker", "(I)Z"⟩ ⟨"SearchGrids", "isLooker", "(I)Z"⟩ ∈ sg_tbl := gd (i := 6) (by decide +kernel) rfl
theorem sl_7 : Cond.selects "SearchGrids$Looker" ⟨"SearchGrids$Looker", "takeAway", "(II)V"⟩ ⟨"SearchGrids$Looker", "takeAway", "(II)V"⟩ ∈ sg_tbl := gd (i := 7) (by decide +kernel) rfl
theorem sl_8 : Cond.selects "SearchGrids$Cell" ⟨"SearchGrids$Cell", "reckonGains", "()V"⟩ ⟨"SearchGrids$Cell", "reckonGains", "()V"⟩ ∈ sg_tbl := gd (i := 8) (by decide +kernel) rfl
theorem sl_9 : Cond.selects "SearchGrids$Cell" ⟨"SearchGrids$Cell", "finds", "([I)J"⟩ ⟨"SearchGrids$Cell", "finds", "([I)J"⟩ ∈ sg_tbl := gd (i := 9) (by decide +kernel) rfl
theorem sl_10 : Cond.selects "SearchGrids$Cell" ⟨"SearchGrids$Cell", "weight", "()J"⟩ ⟨"SearchGrids$Cell", "weight", "()J"⟩ ∈ sg_tbl := gd (i := 10) (by decide +kernel) rfl
theorem sl_11 : Cond.selects "SearchGrids$Cell" ⟨"SearchGrids$Cell", "missed", "([I)J"⟩ ⟨"SearchGrids$Cell", "missed", "([I)J"⟩ ∈ sg_tbl := gd (i := 11) (by decide +kernel) rfl
theorem sl_12 : Cond.selects "SearchGrids$Cell" ⟨"SearchGrids$Cell", "missedBy", "(II)J"⟩ ⟨"SearchGrids$Cell", "missedBy", "(II)J"⟩ ∈ sg_tbl := gd (i := 12) (by decide +kernel) rfl
theorem sl_13 : Cond.selects "SearchGrids" ⟨"SearchGrids", "giveBestHour", "()Z"⟩ ⟨"SearchGrids", "giveBestHour", "()Z"⟩ ∈ sg_tbl := gd (i := 13) (by decide +kernel) rfl
theorem sl_14 : Cond.selects "SearchGrids" ⟨"SearchGrids", "plannedHours", "()I"⟩ ⟨"SearchGrids", "plannedHours", "()I"⟩ ∈ sg_tbl := gd (i := 14) (by decide +kernel) rfl
theorem sl_15 : Cond.selects "SearchGrids" ⟨"SearchGrids", "plannedFinds", "()J"⟩ ⟨"SearchGrids", "plannedFinds", "()J"⟩ ∈ sg_tbl := gd (i := 15) (by decide +kernel) rfl
theorem sl_16 : Cond.selects "SearchGrids" ⟨"SearchGrids", "isOutdone", "(IIIJJ)Z"⟩ ⟨"SearchGrids", "isOutdone", "(IIIJJ)Z"⟩ ∈ sg_tbl := gd (i := 16) (by decide +kernel) rfl
theorem sl_17 : Cond.selects "SearchGrids$LookLog" ⟨"SearchGrids$LookLog", "add", "(IIIJ)I"⟩ ⟨"SearchGrids$LookLog", "add", "(IIIJ)I"⟩ ∈ sg_tbl := gd (i := 17) (by decide +kernel) rfl
theorem sl_18 : Cond.selects "SearchGrids$Cell" ⟨"SearchGrids$Cell", "remains", "()J"⟩ ⟨"SearchGrids$Cell", "remains", "()J"⟩ ∈ sg_tbl := gd (i := 18) (by decide +kernel) rfl
theorem sl_19 : Cond.selects "SearchGrids" ⟨"SearchGrids", "allRemains", "()J"⟩ ⟨"SearchGrids", "allRemains", "()J"⟩ ∈ sg_tbl := gd (i := 19) (by decide +kernel) rfl
theorem sl_20 : Cond.selects "SearchGrids" ⟨"SearchGrids", "standingOf", "(LSearchGrids$Cell;)J"⟩ ⟨"SearchGrids", "standingOf", "(LSearchGrids$Cell;)J"⟩ ∈ sg_tbl := gd (i := 20) (by decide +kernel) rfl
theorem sl_21 : Cond.selects "SearchGrids" ⟨"SearchGrids", "countBefore", "(I)I"⟩ ⟨"SearchGrids", "countBefore", "(I)I"⟩ ∈ sg_tbl := gd (i := 21) (by decide +kernel) rfl
theorem sl_22 : Cond.selects "SearchGridsModel" ⟨"SearchGridsModel", "isCell", "(I)Z"⟩ ⟨"SearchGridsModel", "isCell", "(I)Z"⟩ ∈ sg_tbl := gd (i := 22) (by decide +kernel) rfl
theorem sl_23 : Cond.selects "SearchGridsModel" ⟨"SearchGridsModel", "place", "(I)I"⟩ ⟨"SearchGridsModel", "place", "(I)I"⟩ ∈ sg_tbl := gd (i := 23) (by decide +kernel) rfl
theorem sl_24 : Cond.selects "SearchGridsModel" ⟨"SearchGridsModel", "tell", "(I)I"⟩ ⟨"SearchGridsModel", "tell", "(I)I"⟩ ∈ sg_tbl := gd (i := 24) (by decide +kernel) rfl
theorem sl_25 : Cond.selects "SearchGridsModel" ⟨"SearchGridsModel", "move", "(II)V"⟩ ⟨"SearchGridsModel", "move", "(II)V"⟩ ∈ sg_tbl := gd (i := 25) (by decide +kernel) rfl
theorem sl_26 : Cond.selects "SearchGridsModel" ⟨"SearchGridsModel", "changed", "()V"⟩ ⟨"SearchGridsModel", "changed", "()V"⟩ ∈ sg_tbl := gd (i := 26) (by decide +kernel) rfl
theorem sl_27 : Cond.selects "SearchGridsModel" ⟨"SearchGridsModel", "isLooker", "(I)Z"⟩ ⟨"SearchGridsModel", "isLooker", "(I)Z"⟩ ∈ sg_tbl := gd (i := 27) (by decide +kernel) rfl
theorem sl_28 : Cond.selects "SearchGridsModel" ⟨"SearchGridsModel", "worth", "([I)J"⟩ ⟨"SearchGridsModel", "worth", "([I)J"⟩ ∈ sg_tbl := gd (i := 28) (by decide +kernel) rfl
theorem sl_29 : Cond.selects "SearchGridsModel" ⟨"SearchGridsModel", "weight", "(I)I"⟩ ⟨"SearchGridsModel", "weight", "(I)I"⟩ ∈ sg_tbl := gd (i := 29) (by decide +kernel) rfl
theorem sl_30 : Cond.selects "SearchGridsModel" ⟨"SearchGridsModel", "missed", "([II)J"⟩ ⟨"SearchGridsModel", "missed", "([II)J"⟩ ∈ sg_tbl := gd (i := 30) (by decide +kernel) rfl
theorem sl_31 : Cond.selects "SearchGridsModel" ⟨"SearchGridsModel", "given", "([II)I"⟩ ⟨"SearchGridsModel", "given", "([II)I"⟩ ∈ sg_tbl := gd (i := 31) (by decide +kernel) rfl
theorem sl_32 : Cond.selects "SearchGridsModel" ⟨"SearchGridsModel", "use", "(I)I"⟩ ⟨"SearchGridsModel", "use", "(I)I"⟩ ∈ sg_tbl := gd (i := 32) (by decide +kernel) rfl
theorem sl_33 : Cond.selects "SearchGridsModel" ⟨"SearchGridsModel", "size", "()I"⟩ ⟨"SearchGridsModel", "size", "()I"⟩ ∈ sg_tbl := gd (i := 33) (by decide +kernel) rfl
theorem sl_34 : Cond.selects "SearchGridsModel" ⟨"SearchGridsModel", "isBetter", "(IIJ)Z"⟩ ⟨"SearchGridsModel", "isBetter", "(IIJ)Z"⟩ ∈ sg_tbl := gd (i := 34) (by decide +kernel) rfl
theorem sl_35 : Cond.selects "SearchGridsModel" ⟨"SearchGridsModel", "slot", "(I)I"⟩ ⟨"SearchGridsModel", "slot", "(I)I"⟩ ∈ sg_tbl := gd (i := 35) (by decide +kernel) rfl
theorem sl_36 : Cond.selects "SearchGridsModel" ⟨"SearchGridsModel", "all", "()J"⟩ ⟨"SearchGridsModel", "all", "()J"⟩ ∈ sg_tbl := gd (i := 36) (by decide +kernel) rfl
theorem sl_37 : Cond.selects "SearchGridsModel" ⟨"SearchGridsModel", "left", "()J"⟩ ⟨"SearchGridsModel", "left", "()J"⟩ ∈ sg_tbl := gd (i := 37) (by decide +kernel) rfl
theorem sl_38 : Cond.selects "SearchGridsModel" ⟨"SearchGridsModel", "rank", "(I)J"⟩ ⟨"SearchGridsModel", "rank", "(I)J"⟩ ∈ sg_tbl := gd (i := 38) (by decide +kernel) rfl
def sg_host : String := "SearchGrids"
def sg_fn : List (String × Nat × String × String × String) := [("SearchGrids", 72, "SearchGrids$Cell", "countOf", "[I"), ("SearchGrids", 121, "SearchGrids$Cell", "planned", "[I"), ("SearchGrids", 135, "SearchGrids$Cell", "looked", "[I"), ("SearchGrids", 218, "SearchGrids$Cell", "trial", "[I"), ("SearchGrids", 210, "SearchGrids$Cell", "gains", "[J"), ("SearchGrids", 186, "SearchGrids$Cell", "number", "I"), ("SearchGrids", 153, "SearchGrids$Cell", "squares", "I"), ("SearchGrids", 201, "SearchGrids$Cell", "scale", "I"), ("SearchGrids", 180, "SearchGrids$Cell", "standing", "J"), ("SearchGrids", 207, "SearchGrids$Looker", "use", "I"), ("SearchGrids", 204, "SearchGrids$Looker", "given", "I"), ("SearchGrids", 221, "SearchGrids$Looker", "trial", "I"), ("SearchGrids", 192, "SearchGrids$LookLog", "lookers", "[I"), ("SearchGrids", 194, "SearchGrids$LookLog", "cells", "[I"), ("SearchGrids", 196, "SearchGrids$LookLog", "hours", "[I"), ("SearchGrids", 189, "SearchGrids$LookLog", "byTold", "[I"), ("SearchGrids", 82, "SearchGrids$LookLog", "size", "I")]
def sg_mn : List (String × Nat × MethodName) := [("SearchGrids", 24, ⟨"SearchGrids$Cell", "<init>", "([I)V"⟩), ("SearchGrids", 33, ⟨"SearchGrids$Looker", "<init>", "()V"⟩), ("SearchGrids", 39, ⟨"SearchGrids$LookLog", "<init>", "()V"⟩), ("SearchGrids", 93, ⟨"SearchGrids$Looker", "begin", "(I)V"⟩), ("SearchGrids", 105, ⟨"SearchGrids$Looker", "takeAway", "(II)V"⟩), ("SearchGrids", 114, ⟨"SearchGrids$Cell", "reckonGains", "()V"⟩), ("SearchGrids", 214, ⟨"SearchGrids$Cell", "finds", "([I)J"⟩), ("SearchGrids", 138, ⟨"SearchGrids$LookLog", "add", "(IIIJ)I"⟩), ("SearchGrids", 142, ⟨"SearchGrids$Cell", "remains", "()J"⟩), ("SearchGrids", 148, ⟨"SearchGrids$Cell", "weight", "()J"⟩)]
def sg_nest : List Cond := sg_fn.map (fun q => Cond.fieldLinkNest q.1 q.2.1 q.2.2.1 q.2.2.2.1 q.2.2.2.2 sg_host) ++ sg_mn.map (fun q => Cond.methodLinkNest q.1 q.2.1 q.2.2 sg_host)
theorem sg_nest_warm {s U : State} (hW : s.WarmedH U.vm) : ∀ w ∈ sg_nest, va_Nw w s → va_Nw w U := by
  intro w hw h
  rcases List.mem_append.mp hw with hw | hw
  · obtain ⟨q, -, rfl⟩ := List.mem_map.mp hw
    exact va_Nw.warmF hW h
  · obtain ⟨q, -, rfl⟩ := List.mem_map.mp hw
    exact va_Nw.warmM hW h
theorem sg_nest_tab : ∀ w ∈ sg_nest, w.onTables = true := by
  intro w hw
  rcases List.mem_append.mp hw with hw | hw
  · obtain ⟨q, -, rfl⟩ := List.mem_map.mp hw
    rfl
  · obtain ⟨q, -, rfl⟩ := List.mem_map.mp hw
    rfl
theorem nsF {i : Nat} {a : String} {n : Nat} {b c d : String} (h : sg_fn[i]? = some (a, n, b, c, d)) : Cond.fieldLinkNest a n b c d sg_host ∈ sg_nest := List.mem_append_left _ (List.mem_map.mpr ⟨(a, n, b, c, d), List.mem_of_getElem? h, rfl⟩)
theorem nsM {i : Nat} {a : String} {n : Nat} {y : MethodName} (h : sg_mn[i]? = some (a, n, y)) : Cond.methodLinkNest a n y sg_host ∈ sg_nest := List.mem_append_right _ (List.mem_map.mpr ⟨(a, n, y), List.mem_of_getElem? h, rfl⟩)
theorem sg_nest_in : ∀ w ∈ sg_nest, w ∈ lw_tbl := by
  intro w hw
  rcases List.mem_append.mp hw with hw | hw
  · obtain ⟨q, hq, rfl⟩ := List.mem_map.mp hw
    obtain ⟨i, hi⟩ := List.getElem?_of_mem hq
    match i, hi with
    | 0, hi => cases hi; exact List.mem_of_getElem? (i := 64) (by decide +kernel)
    | 1, hi => cases hi; exact List.mem_of_getElem? (i := 66) (by decide +kernel)
    | 2, hi => cases hi; exact List.mem_of_getElem? (i := 68) (by decide +kernel)
    | 3, hi => cases hi; exact List.mem_of_getElem? (i := 70) (by decide +kernel)
    | 4, hi => cases hi; exact List.mem_of_getElem? (i := 72) (by decide +kernel)
    | 5, hi => cases hi; exact List.mem_of_getElem? (i := 74) (by decide +kernel)
    | 6, hi => cases hi; exact List.mem_of_getElem? (i := 76) (by decide +kernel)
    | 7, hi => cases hi; exact List.mem_of_getElem? (i := 78) (by decide +kernel)
    | 8, hi => cases hi; exact List.mem_of_getElem? (i := 79) (by decide +kernel)
    | 9, hi => cases hi; exact List.mem_of_getElem? (i := 113) (by decide +kernel)
    | 10, hi => cases hi; exact List.mem_of_getElem? (i := 114) (by decide +kernel)
    | 11, hi => cases hi; exact List.mem_of_getElem? (i := 115) (by decide +kernel)
    | 12, hi => cases hi; exact List.mem_of_getElem? (i := 135) (by decide +kernel)
    | 13, hi => cases hi; exact List.mem_of_getElem? (i := 137) (by decide +kernel)
    | 14, hi => cases hi; exact List.mem_of_getElem? (i := 139) (by decide +kernel)
    | 15, hi => cases hi; exact List.mem_of_getElem? (i := 142) (by decide +kernel)
    | 16, hi => cases hi; exact List.mem_of_getElem? (i := 144) (by decide +kernel)
    | i + 17, hi => simp [sg_fn] at hi
  · obtain ⟨q, hq, rfl⟩ := List.mem_map.mp hw
    obtain ⟨i, hi⟩ := List.getElem?_of_mem hq
    match i, hi with
    | 0, hi => cases hi; exact List.mem_of_getElem? (i := 58) (by decide +kernel)
    | 1, hi => cases hi; exact List.mem_of_getElem? (i := 106) (by decide +kernel)
    | 2, hi => cases hi; exact List.mem_of_getElem? (i := 130) (by decide +kernel)
    | 3, hi => cases hi; exact List.mem_of_getElem? (i := 246) (by decide +kernel)
    | 4, hi => cases hi; exact List.mem_of_getElem? (i := 259) (by decide +kernel)
    | 5, hi => cases hi; exact List.mem_of_getElem? (i := 271) (by decide +kernel)
    | 6, hi => cases hi; exact List.mem_of_getElem? (i := 315) (by decide +kernel)
    | 7, hi => cases hi; exact List.mem_of_getElem? (i := 325) (by decide +kernel)
    | 8, hi => cases hi; exact List.mem_of_getElem? (i := 333) (by decide +kernel)
    | 9, hi => cases hi; exact List.mem_of_getElem? (i := 349) (by decide +kernel)
    | i + 10, hi => simp [sg_mn] at hi
def sg_F0 : u_T := fun k => match k with
  | 0 => ("SearchGrids$Cell", "rates", "[I", true)
  | 1 => ("SearchGrids$Cell", "countOf", "[I", true)
  | 2 => ("SearchGrids$Cell", "planned", "[I", true)
  | 3 => ("SearchGrids$Cell", "looked", "[I", true)
  | 4 => ("SearchGrids$Cell", "trial", "[I", true)
  | 5 => ("SearchGrids$Cell", "gains", "[J", true)
  | 6 => ("SearchGrids$Cell", "number", "I", false)
  | 7 => ("SearchGrids$Cell", "squares", "I", false)
  | 8 => ("SearchGrids$Cell", "scale", "I", false)
  | _ => ("SearchGrids$Cell", "standing", "J", false)
def sg_t0 : Nat → FieldType := fun k => match k with
  | 0 => .array .int
  | 1 => .array .int
  | 2 => .array .int
  | 3 => .array .int
  | 4 => .array .int
  | 5 => .array .long
  | 6 => .int
  | 7 => .int
  | 8 => .int
  | _ => .long
theorem sg_nm0 : ∀ a, a < 10 → ∀ b, b < 10 → a ≠ b → (sg_F0 a).2.1 ≠ (sg_F0 b).2.1 := by decide +kernel
theorem sg_ty0 : ∀ k, k < 10 → parseFieldDescriptor (sg_F0 k).2.2.1 = some (sg_t0 k) := by decide +kernel
theorem sg_in0 : ∀ w ∈ u_ws "SearchGrids$Cell" sg_F0 10, w ∈ sg_tbl := by
  intro w hw
  obtain ⟨k, hk, rfl⟩ := List.mem_map.mp hw
  have hk := List.mem_range.mp hk
  match k, hk with
  | 0, _ => exact wd_41
  | 1, _ => exact wd_43
  | 2, _ => exact wd_45
  | 3, _ => exact wd_47
  | 4, _ => exact wd_49
  | 5, _ => exact wd_51
  | 6, _ => exact wd_53
  | 7, _ => exact wd_55
  | 8, _ => exact wd_57
  | 9, _ => exact wd_59
def sg_F1 : u_T := fun k => match k with
  | 0 => ("SearchGrids$LookLog", "lookers", "[I", true)
  | 1 => ("SearchGrids$LookLog", "cells", "[I", true)
  | 2 => ("SearchGrids$LookLog", "hours", "[I", true)
  | 3 => ("SearchGrids$LookLog", "tolds", "[J", true)
  | 4 => ("SearchGrids$LookLog", "byTold", "[I", true)
  | _ => ("SearchGrids$LookLog", "size", "I", false)
def sg_t1 : Nat → FieldType := fun k => match k with
  | 0 => .array .int
  | 1 => .array .int
  | 2 => .array .int
  | 3 => .array .long
  | 4 => .array .int
  | _ => .int
theorem sg_nm1 : ∀ a, a < 6 → ∀ b, b < 6 → a ≠ b → (sg_F1 a).2.1 ≠ (sg_F1 b).2.1 := by decide +kernel
theorem sg_ty1 : ∀ k, k < 6 → parseFieldDescriptor (sg_F1 k).2.2.1 = some (sg_t1 k) := by decide +kernel
theorem sg_in1 : ∀ w ∈ u_ws "SearchGrids$LookLog" sg_F1 6, w ∈ sg_tbl := by
  intro w hw
  obtain ⟨k, hk, rfl⟩ := List.mem_map.mp hw
  have hk := List.mem_range.mp hk
  match k, hk with
  | 0, _ => exact wd_106
  | 1, _ => exact wd_108
  | 2, _ => exact wd_110
  | 3, _ => exact wd_112
  | 4, _ => exact wd_114
  | 5, _ => exact wd_116
def sg_F2 : u_T := fun k => match k with
  | 0 => ("SearchGrids$Looker", "useless", "[Z", true)
  | 1 => ("SearchGrids$Looker", "hours", "I", false)
  | 2 => ("SearchGrids$Looker", "use", "I", false)
  | 3 => ("SearchGrids$Looker", "given", "I", false)
  | _ => ("SearchGrids$Looker", "trial", "I", false)
def sg_t2 : Nat → FieldType := fun k => match k with
  | 0 => .array .boolean
  | 1 => .int
  | 2 => .int
  | 3 => .int
  | _ => .int
theorem sg_nm2 : ∀ a, a < 5 → ∀ b, b < 5 → a ≠ b → (sg_F2 a).2.1 ≠ (sg_F2 b).2.1 := by decide +kernel
theorem sg_ty2 : ∀ k, k < 5 → parseFieldDescriptor (sg_F2 k).2.2.1 = some (sg_t2 k) := by decide +kernel
theorem sg_in2 : ∀ w ∈ u_ws "SearchGrids$Looker" sg_F2 5, w ∈ sg_tbl := by
  intro w hw
  obtain ⟨k, hk, rfl⟩ := List.mem_map.mp hw
  have hk := List.mem_range.mp hk
  match k, hk with
  | 0, _ => exact wd_77
  | 1, _ => exact wd_79
  | 2, _ => exact wd_81
  | 3, _ => exact wd_83
  | 4, _ => exact wd_85
def sg_F3 : u_T := fun k => match k with
  | 0 => ("SearchGrids", "cells", "I", true)
  | 1 => ("SearchGrids", "toldCells", "[LSearchGrids$Cell;", true)
  | 2 => ("SearchGrids", "toldCount", "I", false)
  | 3 => ("SearchGrids", "lookers", "[LSearchGrids$Looker;", true)
  | 4 => ("SearchGrids", "lookerCount", "I", false)
  | 5 => ("SearchGrids", "rates", "[I", true)
  | 6 => ("SearchGrids", "thingCount", "I", false)
  | 7 => ("SearchGrids", "looks", "LSearchGrids$LookLog;", true)
  | 8 => ("SearchGrids", "seenCell", "I", false)
  | 9 => ("SearchGrids", "stopAbove", "J", false)
  | 10 => ("SearchGrids", "stopBelow", "J", false)
  | _ => ("SearchGrids", "gone", "[Z", true)
def sg_t3 : Nat → FieldType := fun k => match k with
  | 0 => .int
  | 1 => .array (.object "SearchGrids$Cell")
  | 2 => .int
  | 3 => .array (.object "SearchGrids$Looker")
  | 4 => .int
  | 5 => .array .int
  | 6 => .int
  | 7 => .object "SearchGrids$LookLog"
  | 8 => .int
  | 9 => .long
  | 10 => .long
  | _ => .array .boolean
theorem sg_nm3 : ∀ a, a < 12 → ∀ b, b < 12 → a ≠ b → (sg_F3 a).2.1 ≠ (sg_F3 b).2.1 := by decide +kernel
theorem sg_ty3 : ∀ k, k < 12 → parseFieldDescriptor (sg_F3 k).2.2.1 = some (sg_t3 k) := by decide +kernel
theorem sg_in3 : ∀ w ∈ u_ws "SearchGrids" sg_F3 12, w ∈ sg_tbl := by
  intro w hw
  obtain ⟨k, hk, rfl⟩ := List.mem_map.mp hw
  have hk := List.mem_range.mp hk
  match k, hk with
  | 0, _ => exact wd_131
  | 1, _ => exact wd_133
  | 2, _ => exact wd_135
  | 3, _ => exact wd_137
  | 4, _ => exact wd_139
  | 5, _ => exact wd_141
  | 6, _ => exact wd_143
  | 7, _ => exact wd_145
  | 8, _ => exact wd_147
  | 9, _ => exact wd_149
  | 10, _ => exact wd_151
  | 11, _ => exact wd_153
def sg_F4 : u_T := fun k => match k with
  | 0 => ("SearchGridsModel", "cells", "I", true)
  | 1 => ("SearchGridsModel", "told", "I", false)
  | 2 => ("SearchGridsModel", "cell", "[I", true)
  | 3 => ("SearchGridsModel", "areas", "[I", true)
  | 4 => ("SearchGridsModel", "count", "[I", true)
  | 5 => ("SearchGridsModel", "things", "I", false)
  | 6 => ("SearchGridsModel", "lookers", "I", false)
  | 7 => ("SearchGridsModel", "rate", "[I", true)
  | 8 => ("SearchGridsModel", "hours", "[I", true)
  | 9 => ("SearchGridsModel", "barred", "[Z", true)
  | 10 => ("SearchGridsModel", "plan", "[I", true)
  | 11 => ("SearchGridsModel", "trial", "[I", true)
  | 12 => ("SearchGridsModel", "looked", "[I", true)
  | 13 => ("SearchGridsModel", "looks", "I", false)
  | 14 => ("SearchGridsModel", "lookLooker", "[I", true)
  | 15 => ("SearchGridsModel", "lookCell", "[I", true)
  | 16 => ("SearchGridsModel", "lookHours", "[I", true)
  | 17 => ("SearchGridsModel", "lookTold", "[J", true)
  | 18 => ("SearchGridsModel", "seenAt", "I", false)
  | 19 => ("SearchGridsModel", "above", "J", false)
  | _ => ("SearchGridsModel", "below", "J", false)
def sg_t4 : Nat → FieldType := fun k => match k with
  | 0 => .int
  | 1 => .int
  | 2 => .array .int
  | 3 => .array .int
  | 4 => .array .int
  | 5 => .int
  | 6 => .int
  | 7 => .array .int
  | 8 => .array .int
  | 9 => .array .boolean
  | 10 => .array .int
  | 11 => .array .int
  | 12 => .array .int
  | 13 => .int
  | 14 => .array .int
  | 15 => .array .int
  | 16 => .array .int
  | 17 => .array .long
  | 18 => .int
  | 19 => .long
  | _ => .long
theorem sg_nm4 : ∀ a, a < 21 → ∀ b, b < 21 → a ≠ b → (sg_F4 a).2.1 ≠ (sg_F4 b).2.1 := by decide +kernel
theorem sg_ty4 : ∀ k, k < 21 → parseFieldDescriptor (sg_F4 k).2.2.1 = some (sg_t4 k) := by decide +kernel
theorem sg_in4 : ∀ w ∈ u_ws "SearchGridsModel" sg_F4 21, w ∈ sg_tbl := by
  intro w hw
  obtain ⟨k, hk, rfl⟩ := List.mem_map.mp hw
  have hk := List.mem_range.mp hk
  match k, hk with
  | 0, _ => exact wd_402
  | 1, _ => exact wd_404
  | 2, _ => exact wd_406
  | 3, _ => exact wd_408
  | 4, _ => exact wd_410
  | 5, _ => exact wd_412
  | 6, _ => exact wd_414
  | 7, _ => exact wd_416
  | 8, _ => exact wd_418
  | 9, _ => exact wd_420
  | 10, _ => exact wd_422
  | 11, _ => exact wd_424
  | 12, _ => exact wd_426
  | 13, _ => exact wd_428
  | 14, _ => exact wd_430
  | 15, _ => exact wd_432
  | 16, _ => exact wd_434
  | 17, _ => exact wd_436
  | 18, _ => exact wd_438
  | 19, _ => exact wd_440
  | 20, _ => exact wd_442
  | k + 21, h => exact absurd h (by omega)
def sg_cl : List vw_C := [("SearchGrids$Cell", sg_F0, 10), ("SearchGrids$LookLog", sg_F1, 6), ("SearchGrids$Looker", sg_F2, 5), ("SearchGrids", sg_F3, 12), ("SearchGridsModel", sg_F4, 21)]
def sg_ft (c k : Nat) : FieldType := match c with
  | 0 => sg_t0 k
  | 1 => sg_t1 k
  | 2 => sg_t2 k
  | 3 => sg_t3 k
  | _ => sg_t4 k
theorem sg_cl_ok : ∀ (c : Nat) (r : vw_C), sg_cl[c]? = some r → (∀ w ∈ u_ws r.1 r.2.1 r.2.2, w ∈ sg_tbl) ∧ (∀ k, k < r.2.2 → parseFieldDescriptor (r.2.1 k).2.2.1 = some (sg_ft c k)) ∧ (∀ a, a < r.2.2 → ∀ b, b < r.2.2 → a ≠ b → (r.2.1 a).2.1 ≠ (r.2.1 b).2.1) := by
  intro c r h
  match c, h with
  | 0, h => cases h; exact ⟨sg_in0, sg_ty0, sg_nm0⟩
  | 1, h => cases h; exact ⟨sg_in1, sg_ty1, sg_nm1⟩
  | 2, h => cases h; exact ⟨sg_in2, sg_ty2, sg_nm2⟩
  | 3, h => cases h; exact ⟨sg_in3, sg_ty3, sg_nm3⟩
  | 4, h => cases h; exact ⟨sg_in4, sg_ty4, sg_nm4⟩
  | c + 5, h => simp [sg_cl] at h
def sg_na : Nat := 5
def sg_at (t : Nat) : FieldType := match t with
  | 0 => .int
  | 1 => .long
  | 2 => .boolean
  | 3 => .object "SearchGrids$Cell"
  | _ => .object "SearchGrids$Looker"
def sg_refs : List String := ["SearchGrids$Cell", "SearchGrids$Looker"]
